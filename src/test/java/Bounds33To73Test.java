/** The boundary cases that promises 33 to 73 name, a test for each sentence. */
public final class Bounds33To73Test extends Sentences {
    private static final String HEAD = "house minutes 5 dust 1 law 0 money 50 odds 0;";
    private static final String LONG = "house minutes 30 dust 1 law 0 money 0 odds 0;";
    /** The first sneezes in 2 and 4, the second in 3 (see PromiseTest). */
    private static final String TWO = "house minutes 6 dust 1 law 0 money 10 odds 3;nose 2 holds 5;nose 1 holds 8;"
        + "gust 3 at 2;net 0 1;policy 0 from 1 to 3 sum 30 pays 4;policy 1 from 0 to 5 sum 9 pays 2;";
    /** Nobody sneezes: 1 2 3 and 0 0 0 of 5. */
    private static final String QUIET = "house minutes 3 dust 1 law 0 money 0 odds 0;nose 1 holds 5;nose 0 holds 5;net 0 1;";
    private static final String ALWAYS = HEAD + "nose 9 holds 1;nose 0 holds 1;";

    public static void main(String[] args) throws Exception {
        run(Bounds33To73Test.class, promises(33, 73));
    }

    private static PepperPolicy none() {
        return new PepperPolicy();
    }

    // ---- claims and money ----

    @Says("CLAIM (III) of a POLICY. -2: there is none such.")
    static void p33_claim() {
        only(2, -2, of(TWO)::claim);
        only(0, -2, of(QUIET)::claim);
        due(of(QUIET + "policy 0 from 0 to 29 sum 99 pays 0;").claim(0), 0);
        due(of(ALWAYS + "policy 0 from 0 to 29 sum 99 pays 0;".repeat(6)).claim(5), 99);
    }

    @Says("The MINUTE of the first SNEEZE that counts for it (III; though half of 1 is nothing). NONE: none; -2 likewise.")
    static void p34_paid() {
        only(2, -2, of(TWO)::paid);
        due(of(QUIET + "policy 0 from 0 to 29 sum 99 pays 0;").paid(0), -1);
        due(of(LONG + "nose 1 holds 30;policy 0 from 29 to 29 sum 9 pays 0;").paid(0), 29);
        due(of(ALWAYS + "policy 0 from 0 to 0 sum 9 pays 0;").paid(0), 0);
        PepperPolicy x = of(ALWAYS.replace("law 0", "law 3") + "policy 0 from 1 to 4 sum 1 pays 0;");
        x.stifle(0, 1);
        due(x.claim(0), 0);
        due(x.paid(0), 2);
        due(x.money(4), 50);
    }

    @Says("POLICIES of which the CLAIM is above 0, as bits. -2: there is no HOUSE.")
    static void p35_claims() {
        due(none().claims(), -2);
        due(of(HEAD).claims(), 0);
        due(of(ALWAYS + "policy 0 from 0 to 0 sum 1 pays 99;".repeat(6)).claims(), 63);
        due(of(ALWAYS + "policy 1 from 0 to 4 sum 1 pays 0;policy 0 from 4 to 4 sum 1 pays 0;policy 0 from 5 to 5 sum 1 pays 0;").claims(), 2);
        PepperPolicy x = of(ALWAYS.replace("law 0", "law 3") + "policy 0 from 1 to 4 sum 1 pays 0;policy 0 from 1 to 4 sum 2 pays 0;policy 0 from 2 to 4 sum 1 pays 0;");
        x.stifle(0, 1);
        due(x.claims(), 6);
    }

    @Says("MONEY (IV) at the end of a MINUTE (below 0, too). -100,000: there is none such.")
    static void p36_money() {
        only(6, -100000, of(TWO)::money);
        only(5, -100000, of(HEAD)::money);
        PepperPolicy x = of("house minutes 3 dust 1 law 2 money 0 odds 0;nose 9 holds 1;" + "policy 0 from 0 to 2 sum 99 pays 0;".repeat(6));
        due(x.money(0), -1782);
        due(x.money(2), -1782);
    }

    @Says("RUIN. NONE: in none; -2: there is no HOUSE.")
    static void p37_ruin() {
        due(none().ruin(), -2);
        due(of(HEAD).ruin(), -1);
        due(of(ALWAYS + "policy 0 from 0 to 0 sum 99 pays 49;").ruin(), -1);
        due(of(ALWAYS + "policy 0 from 0 to 0 sum 99 pays 48;").ruin(), 0);
        due(of(ALWAYS + "policy 0 from 4 to 4 sum 99 pays 48;").ruin(), 4);
    }

    @Says("The POLICY by which the house loses most (CLAIM less pays), the first of several, if above 0. NONE: by none; -2 likewise.")
    static void p38_dear() {
        due(none().dear(), -2);
        due(of(HEAD).dear(), -1);
        String of = "policy 0 from 0 to 4 sum 9 pays ";
        due(of(ALWAYS + of + "9;" + of + "10;").dear(), -1);
        due(of(ALWAYS + of + "9;" + of + "8;").dear(), 1);
        due(of(ALWAYS + of + "8;" + of + "8;").dear(), 0);
        due(of(ALWAYS + of + "8;" + of + "7;" + of + "7;").dear(), 1);
        due(of(ALWAYS + (of + "9;").repeat(5) + of + "8;").dear(), 5);
    }

    @Says("The least money (0 .. 999) by which there is no RUIN. NONE: by none; -2 likewise.")
    static void p39_reserve() {
        due(none().reserve(), -2);
        due(of(HEAD).reserve(), 0);
        String law2 = "house minutes 3 dust 1 law 2 money # odds 0;nose 9 holds 1;" + "policy 0 from 0 to 2 sum 99 pays 0;".repeat(3);
        for (String money : new String[] {"0", "500", "999"}) {
            String text = law2.replace("#", money);
            due(of(text).reserve(), 891);
            due(of(text + "policy 0 from 0 to 2 sum 36 pays 0;").reserve(), 999);
            due(of(text + "policy 0 from 0 to 2 sum 37 pays 2;").reserve(), -1);
            due(of(text + "policy 0 from 0 to 2 sum 37 pays 3;").reserve(), 999);
            due(of(text + "policy 0 from 0 to 2 sum 99 pays 99;").reserve(), -1);
            due(of(text).count(3), Integer.parseInt(money));
        }
        due(of(ALWAYS + "policy 0 from 0 to 2 sum 9 pays 8;").reserve(), 1);
        due(of(ALWAYS + "policy 0 from 4 to 4 sum 9 pays 0;").reserve(), 9);
        due(of(LONG + "nose 9 holds 1;policy 0 from 29 to 29 sum 9 pays 2;").reserve(), 7);
        due(of(ALWAYS + "policy 0 from 0 to 2 sum 9 pays 9;").reserve(), 0);
        due(of(ALWAYS + "policy 0 from 0 to 2 sum 9 pays 99;").reserve(), 0);
    }

    @Says("MONEY at the last MINUTE's end by a LAW (0 .. 3) in place of the one told. -100,000: there is none such, no HOUSE.")
    static void p40_by() {
        only(4, -100000, of(TWO)::by);
        only(0, -100000, none()::by);
        only(4, -100000, of(HEAD)::by);
        for (int told = 0; told < 4; told++) {
            PepperPolicy x = of("house minutes 3 dust 1 law " + told + " money 0 odds 0;nose 9 holds 1;gust 1 at 1;policy 0 from 0 to 2 sum 9 pays 0;policy 0 from 1 to 1 sum 9 pays 0;");
            x.stifle(0, 0);
            due(x.by(0), -18);
            due(x.by(1), -9);
            due(x.by(2), -27);
            due(x.by(3), -4 - 9);
            due(x.count(2), told);
            due(x.money(2), x.by(told));
        }
    }

    @Says("The LAW by which that is most, the least of several. -2: there is no HOUSE.")
    static void p41_law() {
        due(none().law(), -2);
        due(of(HEAD).law(), 0);
        String text = "house minutes 3 dust 1 law 3 money 0 odds 0;nose 9 holds 1;policy 0 from 0 to 2 sum 9 pays 0;";
        due(of(text).law(), 0);
        due(of(text + "gust 1 at 0;gust 1 at 1;gust 1 at 2;").law(), 1);
        PepperPolicy x = of(text);
        x.stifle(0, 0);
        due(x.law(), 3);
        // By law 1 nothing is paid, by law 3 half, by the others all.
        PepperPolicy y = of(text + "gust 1 at 1;gust 1 at 2;");
        y.stifle(0, 0);
        due(y.law(), 1);
        // Law 2 is never alone the best: a claim by it is 0 or no less than by law 0.
        due(of(text.replace("from 0 to 2", "from 2 to 2")).law(), 0);
    }

    // ---- the menu ----

    @Says("NONE: none; -2: there is none such.")
    static void p42_takes() {
        only(2, -2, of(TWO)::takes);
        due(of(HEAD + "nose 9 holds 1;").takes(0), -1);
        due(of(ALWAYS + "policy 0 from 0 to 4 sum 9 pays 9;".repeat(6)).takes(0), -1);
        due(of(ALWAYS + "policy 0 from 0 to 4 sum 9 pays 9;".repeat(5) + "policy 1 from 0 to 4 sum 9 pays 8;").takes(0), 5);
        due(of(ALWAYS + "policy 1 from 0 to 4 sum 9 pays 8;".repeat(6)).takes(0), 0);
    }

    @Says("What he gains by it (0 without). -2 likewise.")
    static void p43_gains() {
        only(2, -2, of(TWO)::gains);
        due(of(HEAD + "nose 9 holds 1;").gains(0), 0);
        due(of(ALWAYS + "policy 0 from 0 to 4 sum 9 pays 9;").gains(0), 0);
        due(of(ALWAYS + "policy 0 from 0 to 4 sum 9 pays 10;").gains(0), 0);
        due(of(ALWAYS + "policy 0 from 0 to 4 sum 9 pays 8;").gains(0), 1);
        due(of(ALWAYS.replace("law 0", "law 2") + "policy 0 from 0 to 4 sum 99 pays 0;").gains(0), 297);
        due(of(ALWAYS + "policy 0 from 0 to 4 sum 99 pays 0;").gains(1), 0);
    }

    @Says("The least pays (0 .. 999) of a POLICY (in place of its own) by which no PERSON takes it from the MENU. -2: there is none such.")
    static void p44_price() {
        only(2, -2, of(TWO)::price);
        String p = "policy 0 from 0 to 4 sum ";
        due(of(HEAD + "nose 0 holds 1;" + p + "99 pays 0;").price(0), 0);
        due(of(ALWAYS + p + "9 pays 0;").price(0), 9);
        due(of(ALWAYS.replace("law 0", "law 2") + p + "99 pays 0;").price(0), 297);
        // Of two alike the first is taken: it is left at one more.
        due(of(ALWAYS + p + "9 pays 4;" + p + "9 pays 50;").price(1), 4);
        due(of(ALWAYS + p + "9 pays 50;" + p + "9 pays 4;").price(0), 5);
        due(of(ALWAYS + p + "9 pays 0;" + p + "5 pays 50;").price(1), 0);
        due(of(ALWAYS + p + "5 pays 50;" + p + "9 pays 4;").price(0), 1);
        due(of(ALWAYS + p + "5 pays 50;" + p + "9 pays 3;").price(0), 0);
        due(of(ALWAYS + p + "9 pays 9;" + p + "9 pays 50;").price(1), 9);
        // Six of six: the last is taken by the last.
        String six = HEAD + "nose 0 holds 1;".repeat(5) + "nose 9 holds 1;" + (p + "9 pays 3;").repeat(5);
        due(of(six + p + "20 pays 0;").price(5), 14);
        due(of(six + p + "20 pays 0;").price(0), 0);
        due(of(six + p + "20 pays 20;").price(0), 4);
        due(of(six + p + "20 pays 14;").price(0), 4);
        due(of(six + p + "20 pays 20;").price(4), 3);
        // One who has no other good one pays most.
        PepperPolicy x = of(HEAD + "nose 9 holds 1;nose 1 holds 5;policy 0 from 0 to 0 sum 50 pays 0;policy 0 from 0 to 4 sum 20 pays 7;");
        due(x.price(1), 20);
        due(x.price(0), 50 - 12);
        due(x.policy(1, 4), 7);
    }

    // ---- holding back, snuff ----

    @Says("HOLDING (VI): the fewest MINUTES by which the PERSON of a POLICY SNEEZES in none of its MINUTES. -2: there is none such.")
    static void p45_hold() {
        only(2, -2, of(TWO)::hold);
        due(of(QUIET + "policy 0 from 0 to 29 sum 1 pays 0;").hold(0), 0);
        due(of(LONG + "nose 9 holds 1;policy 0 from 0 to 29 sum 1 pays 0;").hold(0), 30);
        due(of(LONG + "nose 9 holds 1;policy 0 from 29 to 29 sum 1 pays 0;").hold(0), 1);
        due(of(LONG + "nose 9 holds 1;policy 0 from 0 to 0 sum 1 pays 0;").hold(0), 1);
        due(of(ALWAYS + "policy 0 from 5 to 29 sum 1 pays 0;").hold(0), 0);
        due(of(ALWAYS + "policy 0 from 4 to 29 sum 1 pays 0;").hold(0), 1);
        due(of(HEAD + "nose 1 holds 5;policy 0 from 0 to 4 sum 1 pays 0;").hold(0), 1);
        due(of(HEAD + "nose 1 holds 6;policy 0 from 0 to 4 sum 1 pays 0;").hold(0), 0);
        // One of a policy behind the day needs none, whatever was asked ahead of it.
        PepperPolicy x = of(ALWAYS + "policy 0 from 3 to 29 sum 1 pays 0;policy 0 from 5 to 29 sum 1 pays 0;");
        due(x.hold(0), 2);
        due(x.hold(1), 0);
        due(x.holds(0), 24);
        due(x.holds(1), 0);
        // He sneezes in 1 and in 3, by the gust, and has 2 in 4.
        due(of(HEAD + "nose 2 holds 3;gust 3 at 3;policy 0 from 4 to 9 sum 1 pays 0;").hold(0), 0);
        // 2 4 6 of 5: held in 2, he would sneeze in 3 too, if he were not held; not held in 2, he has 2 4 in 3 and 4.
        due(of(HEAD + "nose 2 holds 5;policy 0 from 3 to 4 sum 1 pays 0;").hold(0), 0);
        due(of(HEAD + "nose 2 holds 5;policy 0 from 2 to 4 sum 1 pays 0;").hold(0), 3);
    }

    @Says("Which, as bits: the least set of so few. -2 likewise.")
    static void p46_holds() {
        only(2, -2, of(TWO)::holds);
        due(of(QUIET + "policy 0 from 0 to 29 sum 1 pays 0;").holds(0), 0);
        due(of(LONG + "nose 9 holds 1;policy 0 from 0 to 29 sum 1 pays 0;").holds(0), (1 << 30) - 1);
        due(of(LONG + "nose 9 holds 1;policy 0 from 29 to 29 sum 1 pays 0;").holds(0), 1 << 29);
        due(of(LONG + "nose 9 holds 1;policy 0 from 0 to 0 sum 1 pays 0;").holds(0), 1);
        due(of(ALWAYS + "policy 0 from 5 to 29 sum 1 pays 0;").holds(0), 0);
        // 1 2 3 4 of 3, sneezing in 2 and 5: in 5 alone held, or in 2 alone (3, and then in 6): the lesser is 2.
        due(of("house minutes 6 dust 1 law 0 money 0 odds 0;nose 1 holds 3;policy 0 from 5 to 5 sum 1 pays 0;").hold(0), 1);
        due(of("house minutes 6 dust 1 law 0 money 0 odds 0;nose 1 holds 3;policy 0 from 5 to 5 sum 1 pays 0;").holds(0), 4);
    }

    @Says("SNUFF: the first MINUTE in which its PERSON, taking it besides, has a greater CLAIM by a POLICY. NONE: in none; -2 likewise.")
    static void p47_snuff() {
        only(2, -2, of(TWO)::snuff);
        String once = HEAD + "nose 0 holds 40;policy 0 from ";
        due(of(once + "0 to 0 sum 9 pays 0;").snuff(0), 0);
        due(of(once + "4 to 4 sum 9 pays 0;").snuff(0), 4);
        due(of(once + "5 to 9 sum 9 pays 0;").snuff(0), -1);
        due(of(once.replace("holds 40", "holds 41") + "0 to 4 sum 9 pays 0;").snuff(0), -1);
        due(of(ALWAYS + "policy 0 from 0 to 4 sum 9 pays 0;").snuff(0), -1);
        // As great is not greater: half of 1 is nothing.
        PepperPolicy x = of(once.replace("law 0", "law 3") + "0 to 4 sum 1 pays 0;");
        due(x.snuff(0), 0);
        x.stifle(0, 0);
        due(x.snuff(0), -1);
        // Where he takes it already, more of it is nothing.
        PepperPolicy y = of(once.replace("holds 40", "holds 41") + "0 to 4 sum 9 pays 0;");
        y.sniff(0, 2);
        due(y.snuff(0), 0);
        y.stifle(0, 0);
        y.stifle(0, 1);
        due(y.frauds(0), 1 + 2 + 8 + 16);
        due(y.count(9), 3);
    }

    @Says("MINUTES in which he does so, as bits. -2 likewise.")
    static void p48_frauds() {
        only(2, -2, of(TWO)::frauds);
        String once = "nose 0 holds 40;policy 0 from ";
        due(of(LONG + once + "0 to 29 sum 9 pays 0;").frauds(0), (1 << 30) - 1);
        due(of(LONG + once + "29 to 29 sum 9 pays 0;").frauds(0), 1 << 29);
        due(of(HEAD + once + "3 to 29 sum 9 pays 0;").frauds(0), 8 + 16);
        due(of(HEAD + once + "5 to 29 sum 9 pays 0;").frauds(0), 0);
        due(of(ALWAYS + "policy 0 from 0 to 4 sum 9 pays 0;").frauds(0), 0);
        // By law 2 one more of three at most: he sneezes twice of itself, then three times.
        String law2 = "house minutes 6 dust 0 law 2 money 0 odds 0;nose 1 holds 1;policy 0 from 0 to 5 sum 9 pays 0;gust 1 at 1;gust 1 at 3;";
        due(of(law2).frauds(0), 63 - 2 - 8);
        due(of(law2 + "gust 1 at 5;").frauds(0), 0);
    }

    // ---- which gust it was ----

    private static void refusals(java.util.function.ToIntBiFunction<PepperPolicy, Integer> f) {
        PepperPolicy x = asks(QUIET, 0, 1);
        only(4, -2, i -> f.applyAsInt(x, i) == -6 ? 0 : f.applyAsInt(x, i));
        for (int s : new int[] {0, 2, 3}) due(f.applyAsInt(x, s), -6);
        for (int n : new int[] {1, 3, 59}) due(f.applyAsInt(asks(QUIET, new int[n]), 1), -2);
        for (int person : new int[] {-1, 2, 3, 127, -128}) due(f.applyAsInt(asks(QUIET, person, 0), 1), -2);
        for (int minute : new int[] {-1, 3, 4, 30, 127, -128}) due(f.applyAsInt(asks(QUIET, 0, minute), 1), -2);
        due(f.applyAsInt(asks(QUIET, 0, 0, 1, 2, 2, 0), 1), -2);
        due(f.applyAsInt(asks(QUIET, 0, 0, 1, 3), 1), -2);
        PepperPolicy none = none();
        due(f.applyAsInt(none, 0), -2);
        none.row(0, 0, 2);
        due(f.applyAsInt(none, 0), -2);
        PepperPolicy wide = of(QUIET);
        wide.row(1, 3, 2);
        for (long v : new long[] {1L << 32, 1L << 63, Long.MAX_VALUE, (1L << 32) + 1}) {
            wide.write(1, 0, v);
            due(f.applyAsInt(wide, 1), -2);
            wide.write(1, 0, 0);
            wide.write(1, 1, v);
            due(f.applyAsInt(wide, 1), -2);
            wide.write(1, 1, 0);
        }
        // No person is told: a row of none is answered, any number is none such.
        due(f.applyAsInt(asks(HEAD, 0, 0), 1), -2);
    }

    @Says("pairs of a MINUTE and a gust: how many. -2: there is no such SLOT, no HOUSE, a number is none such (asked last), not two each; -6: it has nothing.")
    static void p49_which() {
        refusals(PepperPolicy::which);
        due(asks(QUIET).which(1), 27);
        due(asks(HEAD).which(1), 45);
        due(asks(LONG).which(1), 270);
        due(asks(QUIET, 1, 0).which(1), 0);
        int[] all = new int[60];
        for (int i = 1; i < 60; i += 2) all[i] = i / 2;
        due(asks(LONG + "nose 9 holds 1;", all).which(1), 270);
        due(asks(LONG + "nose 0 holds 1;", all).which(1), 0);
        due(asks(LONG + "nose 9 holds 1;nose 0 holds 5;net 0 1;", 0, 0, 1, 1, 1, 29).which(1), 270);
    }

    @Says("MINUTES of these, as bits. -2, -6 likewise.")
    static void p50_when() {
        refusals(PepperPolicy::when);
        due(asks(LONG).when(1), (1 << 30) - 1);
        PepperPolicy x = asks(QUIET, 0, 1);
        due(x.when(1), 3);
        x.write(1, 1, 0);
        due(x.when(1), 1);
        due(asks(QUIET, 1, 0).when(1), 0);
        due(asks(QUIET, 0, 0).when(1), 1);
        due(asks(QUIET, 0, 1).when(1), 3);
        due(asks(QUIET, 0, 2).when(1), 7);
    }

    @Says("The first such pair: 10 times the MINUTE and the gust. NONE: none; -2, -6 likewise.")
    static void p51_gust() {
        refusals(PepperPolicy::gust);
        due(asks(LONG).gust(1), 1);
        due(asks(QUIET, 1, 0).gust(1), -1);
        due(asks(LONG.replace("dust 1", "dust 0") + "nose 1 holds 9;", 0, 29).gust(1), 299);
        due(asks(LONG.replace("dust 1", "dust 0") + "nose 1 holds 1;", 0, 29).gust(1), 291);
        due(asks(LONG.replace("dust 1", "dust 0") + "nose 1 holds 10;", 0, 29).gust(1), -1);
    }

    @Says("leaves fewest of these at worst, if fewer than now, the first of several. NONE: none; -2, -6 likewise.")
    static void p52_ask() {
        refusals(PepperPolicy::ask);
        due(asks(HEAD).ask(1), -1);
        due(asks(HEAD + "nose 0 holds 1;").ask(1), -1);
        due(asks(QUIET, 1, 0).ask(1), -1);
        due(asks(QUIET, 0, 1).ask(1), -1);
        // Six who sneeze in each of thirty minutes tell nothing.
        due(asks(LONG + "nose 9 holds 1;".repeat(6)).ask(1), -1);
        // A gust of 5 or more makes the first sneeze, of 9 the second and the third: 27 in 4 and 5, or in 8 and 1, of each minute.
        String text = "house minutes 3 dust 0 law 0 money 0 odds 0;";
        due(asks(text + "nose 1 holds 5;nose 1 holds 9;nose 1 holds 9;").ask(1), 0);
        due(asks(text + "nose 1 holds 9;nose 1 holds 9;nose 1 holds 5;").ask(1), 2);
        due(asks(text + "nose 1 holds 9;nose 1 holds 5;nose 1 holds 5;").ask(1), 1);
        due(asks(text + "nose 0 holds 9;nose 1 holds 9;").ask(1), 1);
    }

    @Says("How many it leaves at worst (as now without). -2, -6 likewise.")
    static void p53_leaves() {
        refusals(PepperPolicy::leaves);
        due(asks(HEAD).leaves(1), 45);
        due(asks(HEAD + "nose 0 holds 1;").leaves(1), 45);
        due(asks(QUIET, 1, 0).leaves(1), 0);
        PepperPolicy x = asks(QUIET, 0, 1);
        for (int i = 0; i < 3; i++) due(x.leaves(1), 8);
        due(x.ask(1), -1);
        due(asks(LONG + "nose 9 holds 1;".repeat(6)).leaves(1), 270);
        String text = "house minutes 3 dust 0 law 0 money 0 odds 0;";
        due(asks(text + "nose 1 holds 5;nose 1 holds 9;").leaves(1), 15);
        due(asks(text + "nose 1 holds 6;nose 1 holds 9;").leaves(1), 15);
        due(asks(text + "nose 1 holds 9;").leaves(1), 24);
        due(asks(text + "nose 1 holds 9;", 0, 2).leaves(1), 1);
    }

    // ---- two who hold back ----

    @Says("as bits: 1 both as now, 2 the first one HOLDS BACK in all, 4 the other one, 8 both. -2: there are none such, one twice.")
    static void p54_rests() {
        PepperPolicy x = of(TWO);
        only(2, -2, i -> i == 1 ? 0 : x.rests(i, 1));
        only(2, -2, i -> i == 0 ? 0 : x.rests(0, i));
        for (int i = -1; i < 3; i++) due(x.rests(i, i), -2);
        String one = "house minutes 8 dust 1 law 0 money 0 odds 0;";
        due(of(one + "nose 0 holds 1;nose 0 holds 1;").rests(0, 1), 1);
        due(of(one + "nose 9 holds 1;nose 0 holds 1;").rests(0, 1), 2);
        due(of(one + "nose 0 holds 1;nose 9 holds 1;").rests(0, 1), 4);
        due(of(one + "nose 9 holds 1;nose 9 holds 1;").rests(0, 1), 8);
        // Each is tickled once in 1 by the other one: at rest both are as now or both hold back.
        due(of("house minutes 12 dust 0 law 0 money 0 odds 0;nose 1 holds 1;nose 1 holds 1;gust 1 at 0;").rests(0, 1), 15);
    }

    @Says("What the first of two LOSES by the choices (1 in all, 0 as now). -2: there are none such, one twice.")
    static void p55_loses() {
        PepperPolicy x = of(TWO);
        only(2, -2, i -> i == 1 ? 0 : x.loses(i, 1, 0, 0));
        only(2, -2, i -> i == 0 ? 0 : x.loses(0, i, 0, 0));
        only(2, -2, i -> x.loses(0, 1, i, 0));
        only(2, -2, i -> x.loses(0, 1, 0, i));
        due(x.loses(0, 0, 0, 0), -2);
        due(x.loses(1, 1, 1, 1), -2);
        due(of(LONG + "nose 9 holds 1;nose 9 holds 1;").loses(0, 1, 0, 1), 90);
        due(of(LONG + "nose 9 holds 1;nose 9 holds 1;").loses(0, 1, 1, 0), 7);
    }

    @Says("How often all SNEEZE, if a NET were not there. -2: there is none such.")
    static void p56_cut() {
        String text = HEAD + "nose 9 holds 1;nose 0 holds 5;";
        only(1, -2, of(TWO)::cut);
        only(0, -2, of(text)::cut);
        only(8, -2, of(text + "net 0 1;".repeat(8))::cut);
        due(of(text + "net 0 1;").cut(0), 5);
        // Told twice it is there once more.
        due(of(text + "net 0 1;net 1 0;").cut(0), 9);
        due(of(text + "net 0 1;net 1 0;").cut(1), 9);
        // Asked of, it is there again.
        PepperPolicy x = of(text + "net 0 1;");
        due(x.spreads(0), 2);
        due(x.dull(1), -1);
        due(x.cut(0), 5);
        due(x.all(), 9);
        due(x.spreads(0), 2);
        due(x.dull(1), -1);
    }

    @Says("The NET without which that is least, if less than now, the first of several. NONE: none; -2: there is no HOUSE.")
    static void p57_cuts() {
        due(none().cuts(), -2);
        due(of(HEAD).cuts(), -1);
        String text = HEAD + "nose 9 holds 1;nose 0 holds 5;nose 0 holds 5;";
        due(of(text).cuts(), -1);
        due(of(text + "net 0 1;net 0 1;").cuts(), -1);
        due(of(text + "net 0 1;net 0 2;").cuts(), 0);
        due(of(text + "net 1 2;net 0 1;").cuts(), 1);
        due(of(text + "net 0 1;".repeat(7) + "net 0 2;").cuts(), 7);
        // Without it others sneeze more often (tickled at another time): it is not taken.
        due(of(HEAD + "nose 1 holds 99;nose 9 holds 1;net 0 1;").cuts(), -1);
    }

    // ---- puffs by chance ----

    @Says("PUFFS (IX) in MINUTES 0 to one (0 .. 7, one there is): the chance that a PERSON SNEEZES in these, above (what 0), below (1). -2: there are none such.")
    static void p58_chance() {
        PepperPolicy x = of(TWO);
        only(2, -2, i -> x.chance(i, 0, 0));
        only(6, -2, i -> x.chance(0, i, 0));
        only(2, -2, i -> x.chance(0, 0, i));
        only(0, -2, i -> none().chance(i, 0, 0));
        PepperPolicy y = of(LONG + "nose 1 holds 8;nose 1 holds 9;");
        only(8, -2, i -> y.chance(0, i, 0));
        only(8, -2, i -> y.chance(0, i, 1));
        fraction(y.chance(0, 6, 0), y.chance(0, 6, 1), 0, 1);
        fraction(y.chance(0, 7, 0), y.chance(0, 7, 1), 1, 1);
        fraction(y.chance(1, 7, 0), y.chance(1, 7, 1), 0, 1);
        only(7, -2, i -> of(LONG.replace("30", "7") + "nose 1 holds 8;").chance(0, i, 1));
        only(8, -2, i -> of(LONG.replace("30", "8") + "nose 1 holds 8;").chance(0, i, 1));
        only(1, -2, i -> of(LONG.replace("30", "1") + "nose 1 holds 8;").chance(0, i, 1));
    }

    @Says("FAIR: the mean CLAIM of a POLICY by SNEEZES in these, PUFFS in these, above, below. -2 likewise.")
    static void p59_fair() {
        PepperPolicy x = of(TWO);
        only(2, -2, i -> x.fair(i, 0, 0));
        only(6, -2, i -> x.fair(0, i, 0));
        only(2, -2, i -> x.fair(0, 0, i));
        PepperPolicy y = of(LONG.replace("law 0", "law 2") + "nose 9 holds 1;policy 0 from 7 to 29 sum 9 pays 0;policy 0 from 5 to 9 sum 99 pays 0;policy 0 from 8 to 9 sum 1 pays 0;");
        only(8, -2, i -> y.fair(0, i, 1));
        fraction(y.fair(0, 6, 0), y.fair(0, 6, 1), 0, 1);
        fraction(y.fair(0, 7, 0), y.fair(0, 7, 1), 9, 1);
        fraction(y.fair(1, 7, 0), y.fair(1, 7, 1), 297, 1);
        fraction(y.fair(1, 6, 0), y.fair(1, 6, 1), 198, 1);
        fraction(y.fair(2, 7, 0), y.fair(2, 7, 1), 0, 1);
    }

    @Says("The chance that there is RUIN in these, above, below. -2: there are none such.")
    static void p60_risk() {
        PepperPolicy x = of(TWO);
        only(6, -2, i -> x.risk(i, 0));
        only(6, -2, i -> x.risk(i, 1));
        only(2, -2, i -> x.risk(0, i));
        only(0, -2, i -> none().risk(i, 0));
        PepperPolicy y = of(LONG + "nose 9 holds 1;policy 0 from 7 to 29 sum 9 pays 8;");
        only(8, -2, i -> y.risk(i, 1));
        fraction(y.risk(6, 0), y.risk(6, 1), 0, 1);
        fraction(y.risk(7, 0), y.risk(7, 1), 1, 1);
        PepperPolicy z = of(LONG + "nose 9 holds 1;policy 0 from 8 to 29 sum 9 pays 8;");
        fraction(z.risk(7, 0), z.risk(7, 1), 0, 1);
        // Money of 0 is none.
        PepperPolicy even = of(LONG + "nose 9 holds 1;policy 0 from 0 to 29 sum 9 pays 9;");
        fraction(even.risk(7, 0), even.risk(7, 1), 0, 1);
    }

    // ---- acts ----

    @Says("-2: there are none such; -5: there are 40 acts (not taken back).")
    static void p61_stifle() {
        PepperPolicy x = of(TWO);
        only(2, -2, i -> x.stifle(i, 0));
        only(6, -2, i -> x.stifle(0, i));
        due(x.anew(), 8);
        for (int i = 0; i < 40; i++) {
            due(x.count(9), i);
            due(x.stifle(1, 5), 7);
        }
        due(x.stifle(1, 5), -5);
        due(x.stifle(0, 2), -5);
        due(x.count(9), 40);
        due(x.sneezes(0), 4 + 16);
        due(x.undo(), 39);
        due(x.stifle(0, 2), 12);
        due(x.stifle(0, 2), -5);
        due(x.sneezes(0), 8 + 32);
        due(x.anew(), 40);
        due(x.stifle(0, 2), 12);
    }

    @Says("He takes SNUFF in a MINUTE: 1 if he SNEEZES in it then, else 0. -2, -5 likewise.")
    static void p62_sniff() {
        PepperPolicy x = of(TWO);
        only(2, -2, i -> x.sniff(i, 0));
        only(6, -2, i -> x.sniff(0, i));
        due(x.anew(), 8);
        for (int i = 0; i < 40; i++) due(x.sniff(0, 5), 1);
        due(x.sniff(0, 0), -5);
        due(x.stifle(0, 0), -5);
        due(x.sniff(0, 6), -2);
        due(x.count(9), 40);
        due(x.undo(), 39);
        due(x.sniff(0, 0), 1);
        due(x.sniff(0, 0), -5);
        PepperPolicy y = of(LONG + "nose 0 holds 41;nose 0 holds 40;");
        due(y.sniff(0, 29), 0);
        due(y.sniff(1, 29), 1);
        due(y.stifle(1, 29), 40);
        due(y.sniff(1, 29), 0);
    }

    @Says("The latest act is taken back: how many there are. -2: there is no HOUSE; -5: there is none.")
    static void p63_undo() {
        due(none().undo(), -2);
        due(of(HEAD).undo(), -5);
        PepperPolicy x = of(TWO);
        due(x.undo(), -5);
        for (int i = 0; i < 39; i++) x.stifle(0, 0);
        x.stifle(0, 2);
        due(x.sneezes(0), 8 + 32);
        due(x.undo(), 39);
        due(x.sneezes(0), 4 + 16);
        for (int i = 38; i >= 0; i--) due(x.undo(), i);
        due(x.undo(), -5);
        due(x.count(9), 0);
        // One act of two alike.
        x.stifle(0, 2);
        x.stifle(0, 2);
        due(x.undo(), 1);
        due(x.sneezes(0), 8 + 32);
        due(x.undo(), 0);
        due(x.sneezes(0), 4 + 16);
        PepperPolicy gone = of(TWO);
        gone.stifle(0, 0);
        due(gone.house(), 0);
        due(gone.undo(), -2);
    }

    @Says("All are: how many there were. -2 likewise.")
    static void p64_anew() {
        due(none().anew(), -2);
        due(of(HEAD).anew(), 0);
        PepperPolicy x = of(TWO);
        due(x.anew(), 0);
        x.stifle(0, 2);
        due(x.anew(), 1);
        for (int i = 0; i < 40; i++) x.sniff(0, 0);
        due(x.sniff(0, 0), -5);
        due(x.anew(), 40);
        due(x.sneezes(0), 4 + 16);
        due(x.anew(), 0);
    }

    // ---- days drawn ----

    @Says("DAY drawn (IX) from a seed (0 .. 2,000,000,000), what 0: PUFFS, as bits, 1: how often all SNEEZE, 2: the MINUTE of RUIN (NONE: none). -2: there are none such, no HOUSE.")
    static void p65_drawn() {
        due(none().drawn(0, 0), -2);
        PepperPolicy x = of("house minutes 12 dust 0 law 0 money 5 odds 5;nose 1 holds 3;policy 0 from 1 to 29 sum 9 pays 0;");
        for (int seed : new int[] {-1, -2, MIN, 2000000001, 2000000002, MAX}) for (int what = 0; what < 3; what++) due(x.drawn(seed, what), -2);
        only(3, -2, i -> x.drawn(0, i));
        only(3, -2, i -> x.drawn(2000000000, i));
        // Seed 0: puffs in 0 7 8 9 10 11, the last seed: in 0 1 2 5 9 11.
        due(x.drawn(0, 0), 1 + 128 + 256 + 512 + 1024 + 2048);
        due(x.drawn(0, 1), 6);
        due(x.drawn(0, 2), 7);
        due(x.drawn(2000000000, 0), 1 + 2 + 4 + 32 + 512 + 2048);
        due(x.drawn(2000000000, 1), 6);
        due(x.drawn(2000000000, 2), 1);
        PepperPolicy y = of("house minutes 1 dust 0 law 0 money 5 odds 5;nose 1 holds 3;policy 0 from 0 to 29 sum 9 pays 0;");
        due(y.drawn(0, 2), 0);
        due(y.drawn(1, 2), -1);
        due(y.drawn(1, 1), 0);
        due(y.drawn(1, 0), 0);
        due(x.all(), 0);
        due(x.ruin(), -1);
    }

    @Says("Of n (1 .. 20) such from seeds, the seed and 1, .., in how many the CLAIM of a POLICY is above 0. -2: there are none such.")
    static void p66_luck() {
        PepperPolicy x = of("house minutes 1 dust 0 law 0 money 5 odds 5;nose 1 holds 3;policy 0 from 0 to 29 sum 9 pays 0;policy 0 from 1 to 29 sum 9 pays 0;");
        for (int seed : new int[] {-1, MIN, 2000000001, MAX}) due(x.luck(seed, 1, 0), -2);
        only(21, -2, i -> i == 0 ? 0 : x.luck(0, i, 0));
        due(x.luck(0, 0, 0), -2);
        only(21, -2, i -> i == 0 ? 0 : x.luck(2000000000, i, 0));
        only(2, -2, i -> x.luck(0, 1, i));
        only(2, -2, i -> x.luck(2000000000, 20, i));
        // The first draws of seeds 0 .. 11: 0 8 8 7 7 5 6 4 4 2 3 1.
        int[] first = {0, 8, 8, 7, 7, 5, 6, 4, 4, 2, 3, 1};
        int days = 0;
        for (int n = 1; n <= 12; n++) {
            if (first[n - 1] < 5) days++;
            due(x.luck(0, n, 0), days);
        }
        due(x.luck(7, 5, 0), 5);
        due(x.luck(1, 6, 0), 0);
        due(x.luck(0, 20, 1), 0);
        due(x.luck(2000000000, 1, 0), 1);
        due(of("house minutes 1 dust 0 law 0 money 5 odds 5;nose 1 holds 3;policy 0 from 0 to 29 sum 1 pays 0;").luck(0, 1, 0), 1);
        due(of("house minutes 1 dust 0 law 0 money 5 odds 10;nose 1 holds 3;policy 0 from 0 to 0 sum 9 pays 0;").luck(2000000000, 20, 0), 20);
        due(of("house minutes 1 dust 0 law 0 money 5 odds 0;nose 1 holds 3;policy 0 from 0 to 0 sum 9 pays 0;").luck(0, 20, 0), 0);
    }

    @Says("pays of a POLICY is n (0 .. 99) from now on: what it was. -2: there are none such; -5: there are acts that are not taken back.")
    static void p67_rate() {
        PepperPolicy x = of(TWO);
        only(2, -2, i -> x.rate(i, 7));
        due(x.policy(0, 4), 7);
        due(x.rate(0, 4), 7);
        for (int n : new int[] {-1, -100, MIN, 100, 101, MAX}) {
            due(x.rate(0, n), -2);
            due(x.policy(0, 4), 4);
        }
        due(x.rate(0, 99), 4);
        due(x.money(0), 10 + 99 + 7);
        due(x.rate(0, 0), 99);
        due(x.policy(0, 4), 0);
        due(x.money(0), 10 + 0 + 7);
        x.sniff(0, 0);
        due(x.rate(0, 50), -5);
        due(x.rate(0, 0), -5);
        due(x.policy(0, 4), 0);
        x.undo();
        due(x.rate(0, 50), 0);
        x.stifle(0, 0);
        x.anew();
        due(x.rate(0, 60), 50);
        x.undo();
        due(x.policy(0, 4), 60);
    }

    // ---- counts, images, rows ----

    @Says("12 SLOTS that have a row. NONE for others.")
    static void p68_count() {
        PepperPolicy x = of(TWO);
        only(13, -1, x::count);
        only(13, -1, none()::count);
        for (int s = 3; s >= 0; s--) {
            due(x.count(12), 3 - s);
            x.row(s, s, 0);
            due(x.count(12), 4 - s);
            x.row(s, 0, 60);
            due(x.count(12), 4 - s);
        }
        x.row(0, 0, -1);
        due(x.count(12), 4);
        put(x, "x");
        due(x.count(11), 1);
        for (int i = 0; i < 40; i++) x.stifle(0, 0);
        due(x.count(9), 40);
    }

    @Says("IMAGE k (0 .. 2) keeps the HOUSE, and acts: 0. -2: no such k.")
    static void p69_image() {
        PepperPolicy x = of(TWO);
        only(3, -2, x::image);
        for (int k = 0; k < 3; k++) due(x.image(k), 0);
        // A full house, with 40 acts, and what came by rate.
        PepperPolicy y = of("house minutes 30 dust 9 law 3 money 999 odds 10;" + "nose 9 holds 99;".repeat(6) + "gust 9 at 29;".repeat(5)
            + "net 0 1;".repeat(7) + "net 4 5;" + "policy 5 from 29 to 29 sum 99 pays 99;".repeat(6));
        y.rate(5, 3);
        for (int i = 0; i < 39; i++) y.stifle(0, i % 30);
        y.sniff(5, 29);
        int all = y.all();
        due(y.image(2), 0);
        put(y, HEAD);
        due(y.house(), 1);
        due(y.back(2), 0);
        int[] counts = {30, 9, 3, 999, 10, 6, 5, 8, 6, 40, 26};
        for (int i = 0; i < counts.length; i++) due(y.count(i), counts[i]);
        due(y.policy(5, 4), 3);
        due(y.all(), all);
        due(y.dust(29), 54);
        due(y.beside(5), 16);
        due(y.undo(), 39);
        // Kept by another image of the same number, the first is gone; slots and tape are none of it.
        y.anew();
        due(y.image(2), 0);
        y.row(0, 0, 2);
        y.feed(0, 0, 0, 0, 0);
        due(y.back(2), 0);
        due(y.count(9), 0);
        due(y.count(12), 1);
        due(y.count(11), 20);
    }

    @Says("It is as IMAGE k has it: 0. -2: no such k; -6: it has nothing.")
    static void p70_back() {
        PepperPolicy x = of(TWO);
        only(3, -2, x::back);
        for (int k = 0; k < 3; k++) due(x.back(k), -6);
        x.stifle(0, 2);
        due(x.image(1), 0);
        due(x.back(0), -6);
        due(x.back(2), -6);
        due(x.count(9), 1);
        x.undo();
        due(x.back(1), 0);
        due(x.sneezes(0), 8 + 32);
        x.stifle(0, 3);
        due(x.back(1), 0);
        due(x.count(9), 1);
        due(x.back(1), 0);
        due(x.sneezes(0), 8 + 32);
        // Its acts are those done ahead of it, whatever was done in their place.
        due(x.undo(), 0);
        x.sniff(1, 0);
        x.sniff(1, 1);
        due(x.back(1), 0);
        due(x.sneezes(0), 8 + 32);
        due(x.sneezes(1), 16);
        due(x.count(9), 1);
        // An image of no house is one.
        PepperPolicy y = none();
        due(y.back(0), -6);
        due(y.image(0), 0);
        put(y, TWO);
        due(y.house(), 7);
        due(y.back(0), 0);
        due(y.all(), -2);
        due(y.count(10), 0);
        due(y.undo(), -2);
    }

    @Says("A SLOT (0 .. 3) has a row of n numbers of a WIDTH, all 0 (in place of another one): 0.")
    static void p71_allZero() {
        for (int width = 0; width < 4; width++) {
            PepperPolicy x = of(QUIET);
            for (int s = 0; s < 4; s++) {
                due(x.row(s, width, 60), 0);
                for (int i = 0; i < 60; i++) due(x.write(s, i, -1), 0);
                due(x.write(s, 60, 0), -7);
                due(x.which(s), -2);
                due(x.row(s, width, 60), 0);
                due(x.which(s), 6);
                due(x.row(s, width, 0), 0);
                due(x.write(s, 0, 0), -7);
                due(x.which(s), 27);
                due(x.row(s, width, 1), 0);
                due(x.write(s, 0, 0), 0);
                due(x.write(s, 1, 0), -7);
            }
        }
    }

    @Says("-2: there is no such SLOT or WIDTH (0 .. 3), or n is above 60; -3, and the SLOT stays: n is below 0.")
    static void p71_row() {
        PepperPolicy x = asks(QUIET, 0, 1);
        only(4, -2, i -> i == 1 ? 0 : x.row(i, 0, 60));
        for (int width : new int[] {-1, 4, 5, MIN, MAX}) due(x.row(1, width, 2), -2);
        for (int n : new int[] {61, 62, 100, MAX}) due(x.row(1, 0, n), -2);
        for (int n : new int[] {-1, -2, -60, MIN}) {
            due(x.row(1, 3, n), -3);
            due(x.row(4, 0, n), -2);
            due(x.row(-1, 0, n), -2);
            due(x.row(1, 4, n), -2);
            due(x.row(1, -1, n), -2);
        }
        // It stays as it was, with its numbers and its width.
        due(x.which(1), 8);
        due(x.write(1, 0, 256), 0);
        due(x.which(1), 8);
        PepperPolicy y = of(QUIET);
        due(y.row(0, 0, -1), -3);
        due(y.write(0, 0, 0), -6);
        due(y.count(12), 0);
        due(y.row(0, 0, 60), 0);
        due(y.row(0, 3, 0), 0);
    }

    @Says("Number i of the SLOT's row is v, cut to its WIDTH: 0.")
    static void p72_cutToItsWidth() {
        for (int width = 0; width < 4; width++) {
            int bits = 8 << width;
            PepperPolicy x = of(QUIET);
            x.row(0, width, 2);
            long whole = bits == 64 ? 0 : 1L << bits;
            // As person and minute 0, but for the bits beyond: 6 gusts; the minute 1: 8.
            for (long v : new long[] {0, whole, -whole, 2 * whole, 77 * whole}) {
                due(x.write(0, 0, v), 0);
                due(x.write(0, 1, v), 0);
                due(x.which(0), 6);
                due(x.write(0, 1, v + 1), 0);
                due(x.which(0), 8);
            }
            // Within the width nothing is cut.
            for (int bit = 2; bit < bits; bit++) {
                due(x.write(0, 0, 0), 0);
                due(x.write(0, 1, 1L << bit), 0);
                due(x.which(0), -2);
                due(x.write(0, 1, 0), 0);
                due(x.write(0, 0, 1L << bit), 0);
                due(x.which(0), -2);
            }
            due(x.write(0, 0, -1), 0);
            due(x.which(0), -2);
            due(x.write(0, 0, whole - 1), 0);
            due(x.which(0), -2);
        }
    }

    @Says("-2: there is no such SLOT; -6: it has nothing; -7: there is no such number.")
    static void p72_write() {
        PepperPolicy x = of(QUIET);
        only(4, -2, i -> x.write(i, 0, 0));
        due(x.write(0, -1, 0), -6);
        x.row(0, 3, 60);
        only(60, -7, i -> x.write(0, i, 1));
        x.row(0, 3, 1);
        only(1, -7, i -> x.write(0, i, 1));
        x.row(0, 3, 0);
        only(0, -7, i -> x.write(0, i, 1));
        due(x.write(1, 0, 0), -6);
        due(x.write(4, -1, 0), -2);
    }

    @Says("So many numbers of a SLOT's row, from one on, are put to another one's (or its own), from one on, as they were: 0.")
    static void p73_asTheyWere() {
        // Overlapping in its own row, to the right and to the left: 0 2 1 0 and then 0 0 2 1, or 2 1 0 0.
        PepperPolicy x = asks(QUIET, 0, 2, 1, 0);
        due(x.paste(1, 0, 1, 1, 3), 0);
        due(x.which(1), -2);
        x = asks(QUIET, 0, 1, 0, 2, 0, 0, 0, 0);
        due(x.paste(1, 1, 1, 0, 7), 0);
        due(x.which(1), -2);
        // He sneezes in 2 also by the net, if he did in 0: six gusts. In 2 alone: besides these one of 2 in 0, one of 2 in 1, eight in 2.
        x = asks(QUIET, 0, 0, 0, 2, 0, 2);
        due(x.which(1), 6);
        due(x.paste(1, 2, 1, 0, 4), 0);
        due(x.which(1), 6 + 1 + 1 + 8);
        due(x.paste(1, 0, 1, 0, 6), 0);
        due(x.which(1), 16);
        // All sixty, and the last of them.
        PepperPolicy y = of(LONG.replace("dust 1", "dust 0") + "nose 1 holds 1;");
        for (int s = 0; s < 2; s++) y.row(s, 2, 60);
        for (int i = 1; i < 60; i += 2) y.write(0, i, 5);
        due(y.which(0), 9);
        due(y.gust(0), 51);
        due(y.gust(1), 1);
        due(y.paste(0, 59, 1, 59, 1), 0);
        due(y.which(1), 0);
        due(y.paste(0, 0, 1, 0, 60), 0);
        due(y.gust(1), 51);
        due(y.paste(0, 0, 1, 1, 59), 0);
        due(y.which(1), -2);
    }

    @Says("-2: there is no such SLOT; -6: one has nothing; -8: they are not of one WIDTH; -7, and nothing happens")
    static void p73_refused() {
        PepperPolicy x = asks(QUIET, 0, 1, 0, 1);
        x.row(0, 0, 4);
        x.row(2, 1, 4);
        only(4, -2, i -> i == 3 ? 0 : x.paste(i, 0, 1, 0, 0));
        only(4, -2, i -> i == 3 ? 0 : x.paste(1, 0, i, 0, 0));
        due(x.paste(3, 0, 1, 0, 0), -6);
        due(x.paste(1, 0, 3, 0, 0), -6);
        due(x.paste(3, 0, 3, 0, 0), -6);
        due(x.paste(3, 0, 4, 0, 0), -2);
        due(x.paste(-1, 0, 3, 0, 0), -2);
        due(x.paste(3, 0, 2, -1, 9), -6);
        due(x.paste(1, 0, 2, 0, 1), -8);
        due(x.paste(2, 0, 1, 0, 0), -8);
        due(x.paste(1, 5, 2, -1, -1), -8);
        due(x.paste(0, 0, 1, 1, 4), -7);
        due(x.paste(0, 1, 1, 0, 4), -7);
        due(x.which(1), 8);
        due(x.paste(0, 0, 1, 0, 4), 0);
        due(x.which(1), 6);
    }

    @Says("some are beyond their rows (also where n is 0: a place above how many it has), or a place or n is below 0.")
    static void p73_beyond() {
        int[] lengths = {0, 1, 3, 60};
        for (int a : lengths) {
            for (int b : lengths) {
                PepperPolicy x = of(QUIET);
                x.row(0, 0, a);
                x.row(1, 0, b);
                due(x.paste(0, a, 1, b, 0), 0);
                due(x.paste(0, a, 1, 0, 0), 0);
                due(x.paste(0, 0, 1, b, 0), 0);
                due(x.paste(0, a + 1, 1, 0, 0), -7);
                due(x.paste(0, 0, 1, b + 1, 0), -7);
                due(x.paste(0, -1, 1, 0, 0), -7);
                due(x.paste(0, 0, 1, -1, 0), -7);
                due(x.paste(0, 0, 1, 0, -1), -7);
                due(x.paste(0, a, 1, 0, 1), -7);
                due(x.paste(0, 0, 1, b, 1), -7);
                due(x.paste(0, 0, 1, 0, Math.min(a, b)), 0);
                due(x.paste(0, 0, 1, 0, Math.min(a, b) + 1), -7);
                due(x.paste(0, a - Math.min(a, b), 1, b - Math.min(a, b), Math.min(a, b)), 0);
                for (int far : new int[] {MAX, MAX - 1, MIN, MIN + 1, 61}) {
                    due(x.paste(0, far, 1, 0, 0), -7);
                    due(x.paste(0, 0, 1, far, 0), -7);
                    due(x.paste(0, 0, 1, 0, far), -7);
                    due(x.paste(0, far, 1, far, far), -7);
                    due(x.paste(0, 1, 1, 1, far), -7);
                }
            }
        }
    }
}
