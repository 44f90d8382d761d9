/** The boundary cases that promises 1 to 32 name, a test for each sentence. */
public final class Bounds1To32Test extends Sentences {
    private static final String HEAD = "house minutes 5 dust 1 law 0 money 50 odds 0;";
    /** The first sneezes in 2 and 4, the second in 3 (see PromiseTest). */
    private static final String TWO = "house minutes 6 dust 1 law 0 money 10 odds 3;nose 2 holds 5;nose 1 holds 8;"
        + "gust 3 at 2;net 0 1;policy 0 from 1 to 3 sum 30 pays 4;policy 1 from 0 to 5 sum 9 pays 2;";
    private static final String QUIET = HEAD + "nose 1 holds 9;nose 0 holds 1;net 0 1;";
    private static final String SIX = "nose 1 holds 9;".repeat(6);

    public static void main(String[] args) throws Exception {
        run(Bounds1To32Test.class, promises(1, 32));
    }

    private static PepperPolicy none() {
        return new PepperPolicy();
    }

    @Says("No HOUSE.")
    static void p1_nothingIsThere() {
        PepperPolicy x = none();
        for (int i = 0; i <= 12; i++) due(x.count(i), 0);
        only(0, -2, i -> x.nose(i, 0));
        only(0, -2, i -> x.policy(i, 0));
        only(0, -2, x::beside);
        only(0, -2, x::dust);
        only(0, -2, x::sneezes);
        only(0, -2, x::who);
        only(0, -2, x::web);
        only(0, -2, x::claim);
        only(0, -2, x::cut);
        only(0, -100000, x::money);
        only(0, -100000, x::profit);
        only(0, -100000, x::by);
        due(x.all(), -2);
        due(x.ruin(), -2);
        due(x.law(), -2);
        due(x.undo(), -2);
        due(x.anew(), -2);
        due(x.risk(0, 0), -2);
        due(x.back(0), -6);
        due(x.write(0, 0, 0), -6);
        due(x.house(), 0);
    }

    @Says("NONE, and none come, if it would have more than 900.")
    static void p2_neverMoreThan900() {
        PepperPolicy x = none();
        for (int i = 1; i <= 45; i++) due(x.feed(i, i, i, i, i), 20 * i);
        due(x.feed(0, 0, 0, 0, 0), -1);
        due(x.count(11), 900);
        for (int n = 899; n > 880; n--) {
            due(x.end(n), n);
            due(x.feed(0, 0, 0, 0, 0), -1);
            due(x.count(11), n);
        }
        due(x.end(880), 880);
        due(x.feed(0, 0, 0, 0, 0), 900);
        due(x.end(879), 879);
        due(x.feed(0, 0, 0, 0, 0), 899);
        // All 900 are read, and none that were refused.
        put(x, "");
        String text = HEAD + "nose 1 holds 1;";
        put(x, text + " ".repeat(900 - text.length() - 1) + "x");
        due(x.feed(0x3b3b3b3b, 0, 0, 0, 0), -1);
        due(x.house(), -4);
        due(x.fault(1), 899);
        put(x, text.substring(0, text.length() - 1) + " ".repeat(900 - text.length()) + ";");
        due(x.count(11), 900);
        due(x.house(), 2);
        due(x.feed(0, 0, 0, 0, 0), 20);
    }

    @Says("Twenty bytes come behind the TAPE, four of each number, the highest first: how many it has")
    static void p2_fourOfEachTheHighestFirst() {
        // Each byte of the twenty in its turn is the first that is no token.
        for (int at = 0; at < 20; at++) {
            int[] n = {0x20202020, 0x20202020, 0x20202020, 0x20202020, 0x20202020};
            n[at / 4] ^= 0xdf << 24 - 8 * (at % 4);
            PepperPolicy x = none();
            due(x.feed(n[0], n[1], n[2], n[3], n[4]), 20);
            due(x.house(), -4);
            due(x.fault(1), at);
        }
        PepperPolicy x = none();
        due(x.feed(MIN, MAX, -1, 0, 1), 20);
        due(x.end(3), 3);
        due(x.feed(0, 0, 0, 0, 0), 23);
    }

    @Says("NONE, and nothing happens, if it has not so many, or n is below 0.")
    static void p3_end() {
        PepperPolicy x = none();
        due(x.end(0), 0);
        due(x.end(1), -1);
        for (int i = 1; i <= 45; i++) x.feed(i, i, i, i, i);
        for (int n : new int[] {901, 902, 1000, MAX, -1, -2, -900, MIN}) {
            due(x.end(n), -1);
            due(x.count(11), 900);
        }
        due(x.end(900), 900);
        due(x.end(899), 899);
        due(x.end(900), -1);
        due(x.end(1), 1);
        due(x.end(2), -1);
        due(x.end(0), 0);
        due(x.end(1), -1);
        due(x.count(11), 0);
    }

    @Says("The TAPE has its first n bytes alone")
    static void p3_theFirstAlone() {
        PepperPolicy x = none();
        put(x, HEAD + "nose 1 holds 1;x");
        due(x.end(HEAD.length() + 15), HEAD.length() + 15);
        due(x.house(), 2);
        put(x, HEAD + "nose 1 holds 1;x");
        due(x.end(HEAD.length()), HEAD.length());
        due(x.house(), 1);
    }

    @Says("The TAPE (empty then) is the HOUSE (in place of another), nothing done: how many LINES (0: there is none then).")
    static void p4_inPlaceOfAnother() {
        PepperPolicy x = of(TWO);
        for (int i = 0; i < 40; i++) x.stifle(0, 2);
        put(x, HEAD + "nose 1 holds 9;");
        due(x.house(), 2);
        due(x.count(11), 0);
        due(x.count(9), 0);
        due(x.tickle(0, 2), 3);
        int[] counts = {5, 1, 0, 50, 0, 1, 0, 0, 0, 0, 2};
        for (int i = 0; i < counts.length; i++) due(x.count(i), counts[i]);
        due(x.dust(2), 1);
        due(x.house(), 0);
        for (int i = 0; i < counts.length; i++) due(x.count(i), 0);
        due(x.all(), -2);
        due(x.dust(0), -2);
        due(x.nose(0, 0), -2);
        put(x, HEAD);
        due(x.house(), 1);
        due(x.all(), 0);
        put(x, " ".repeat(900));
        due(x.house(), 0);
        due(x.all(), -2);
    }

    @Says("-4: a FAULT (the TAPE is empty, all else stays).")
    static void p4_aFault() {
        PepperPolicy x = of(TWO);
        x.stifle(0, 2);
        x.row(2, 1, 3);
        x.image(1);
        for (String bad : new String[] {"x", TWO + "x", HEAD + "nose 9 holds 1;house", "house minutes 31", HEAD.substring(0, 44)}) {
            put(x, bad);
            due(x.house(), -4);
            due(x.count(11), 0);
            int[] counts = {6, 1, 0, 10, 3, 2, 1, 1, 2, 1, 7, 0, 1};
            for (int i = 0; i < counts.length; i++) due(x.count(i), counts[i]);
            due(x.sneezes(0), 8 + 32);
            due(x.dust(2), 4);
            due(x.nose(0, 0), 2);
            due(x.policy(1, 4), 2);
            due(x.beside(0), 2);
        }
        due(x.undo(), 0);
        due(x.sneezes(0), 4 + 16);
        due(x.back(1), 0);
        due(x.count(9), 1);
        PepperPolicy y = none();
        put(y, "x");
        due(y.house(), -4);
        due(y.all(), -2);
    }

    @Says("Of the latest house(), what 0: its FAULT, 0 without, 1: its place (NONE without).")
    static void p5_ofTheLatest() {
        PepperPolicy x = none();
        put(x, "house minutes 99");
        due(x.house(), -4);
        due(x.fault(0), 2);
        due(x.fault(1), 14);
        put(x, "?");
        due(x.fault(0), 2);
        due(x.fault(1), 14);
        due(x.house(), -4);
        due(x.fault(0), 1);
        due(x.fault(1), 0);
        x.image(0);
        x.back(0);
        due(x.fault(0), 1);
        put(x, HEAD);
        due(x.house(), 1);
        due(x.fault(0), 0);
        due(x.fault(1), -1);
        put(x, "??");
        due(x.house(), -4);
        due(x.house(), 0);
        due(x.fault(0), 0);
        due(x.fault(1), -1);
    }

    @Says("NONE for another what, and ahead of any (what 1).")
    static void p5_anotherWhat() {
        PepperPolicy x = none();
        due(x.fault(0), 0);
        due(x.fault(1), -1);
        put(x, HEAD + "?");
        due(x.fault(0), 0);
        due(x.fault(1), -1);
        x.house();
        only(2, -1, x::fault);
    }

    @Says("-2: there are none such.")
    static void p6_nose() {
        PepperPolicy x = of(TWO);
        only(2, -2, i -> x.nose(i, 0));
        only(2, -2, i -> x.nose(i, 1));
        only(2, -2, i -> x.nose(1, i));
        only(6, -2, i -> of(HEAD + SIX).nose(i, 1));
        only(0, -2, i -> of(HEAD).nose(i, 1));
    }

    @Says("-2: there are none such.")
    static void p7_policy() {
        PepperPolicy x = of(TWO);
        only(2, -2, i -> x.policy(i, 0));
        only(2, -2, i -> x.policy(i, 4));
        only(5, -2, i -> x.policy(1, i));
        only(6, -2, i -> of(HEAD + SIX + "policy 5 from 0 to 0 sum 1 pays 0;".repeat(6)).policy(i, 2));
        only(0, -2, i -> of(HEAD + SIX).policy(i, 0));
    }

    @Says("PERSONS beside a PERSON by NETS, as bits. -2: there is none such.")
    static void p8_beside() {
        PepperPolicy x = of(HEAD + SIX + "net 0 1;net 0 2;net 3 0;net 0 4;net 5 0;net 5 4;");
        only(6, -2, x::beside);
        due(x.beside(0), 62);
        due(x.beside(1), 1);
        due(x.beside(5), 17);
        due(of(HEAD + SIX).beside(5), 0);
        due(of(HEAD + SIX + "net 5 4;".repeat(8)).beside(5), 16);
    }

    @Says("-2: there is none such.")
    static void p9_dust() {
        only(6, -2, of(TWO)::dust);
        only(5, -2, of(HEAD + "gust 9 at 5;gust 9 at 29;")::dust);
    }

    @Says("MINUTES in which a PERSON SNEEZES, as bits. -2: there is none such.")
    static void p10_sneezes() {
        only(2, -2, of(TWO)::sneezes);
        PepperPolicy x = of("house minutes 30 dust 1 law 0 money 0 odds 0;nose 9 holds 1;nose 0 holds 1;nose 1 holds 30;");
        only(3, -2, x::sneezes);
        due(x.sneezes(0), (1 << 30) - 1);
        due(x.sneezes(1), 0);
        due(x.sneezes(2), 1 << 29);
    }

    @Says("NONE: none; -2 likewise.")
    static void p11_first() {
        only(2, -2, of(TWO)::first);
        PepperPolicy x = of("house minutes 30 dust 1 law 0 money 0 odds 0;nose 9 holds 1;nose 0 holds 1;nose 1 holds 30;");
        due(x.first(0), 0);
        due(x.first(1), -1);
        due(x.first(2), 29);
    }

    @Says("-2: there is no HOUSE.")
    static void p12_all() {
        due(none().all(), -2);
        due(of(HEAD).all(), 0);
        due(of(QUIET).all(), 0);
        due(of("house minutes 30 dust 1 law 0 money 0 odds 0;" + "nose 9 holds 1;".repeat(6)).all(), 180);
    }

    @Says("PERSONS who SNEEZE in a MINUTE, as bits. -2: there is none such.")
    static void p13_who() {
        only(6, -2, of(TWO)::who);
        PepperPolicy x = of("house minutes 30 dust 1 law 0 money 0 odds 0;" + "nose 9 holds 9;".repeat(6));
        only(30, -2, x::who);
        due(x.who(0), 63);
        due(x.who(29), 63);
        due(of(QUIET).who(4), 0);
    }

    @Says("-2: there are none such.")
    static void p14_tickle() {
        PepperPolicy x = of(TWO);
        only(2, -2, i -> x.tickle(i, 0));
        only(2, -2, i -> x.tickle(i, 5));
        only(6, -2, i -> x.tickle(0, i));
        only(6, -2, i -> x.tickle(1, i));
    }

    @Says("The greatest of all MINUTES. -2: there is none such.")
    static void p15_itch() {
        only(2, -2, of(TWO)::itch);
        due(of(QUIET).itch(0), 5);
        due(of(QUIET).itch(1), 0);
        due(of(HEAD + "nose 9 holds 1;").itch(0), 0);
        PepperPolicy x = of(HEAD + "nose 5 holds 9;");
        due(x.itch(0), 5);
        due(x.stifle(0, 3), 10);
        due(x.itch(0), 10);
        // At the end of minute 0, or of the last: 3 and 0 of 6, or 1 .. 30 of 31.
        due(of("house minutes 2 dust 1 law 0 money 0 odds 0;nose 3 holds 6;").itch(0), 3);
        due(of("house minutes 30 dust 1 law 0 money 0 odds 0;nose 1 holds 31;").itch(0), 30);
    }

    @Says("-2 likewise.")
    static void p16_caught() {
        only(2, -2, of(TWO)::caught);
        due(of(QUIET).caught(1), 0);
        String all = "house minutes 30 dust 1 law 0 money 0 odds 0;nose 9 holds 1;nose 0 holds 1;";
        due(of(all + "net 0 1;".repeat(8)).caught(1), 40 * 29);
        due(of(all + "net 0 1;".repeat(8)).caught(0), 40 * 28);
        due(of(all).caught(1), 0);
        // What comes in a minute in which he sneezes came too, snuff and dust by no net.
        PepperPolicy x = of(HEAD + "nose 9 holds 1;nose 1 holds 99;net 0 1;");
        x.sniff(1, 2);
        due(x.caught(1), 20);
    }

    @Says("PERSONS beside him who SNEEZED in the MINUTE ahead of his first SNEEZE, as bits (0 without). -2 likewise.")
    static void p17_gave() {
        only(2, -2, of(TWO)::gave);
        due(of(QUIET).gave(0), 0);
        due(of(QUIET).gave(1), 0);
        // He sneezes in minute 0: nothing is ahead of it.
        due(of(HEAD + "nose 9 holds 1;nose 9 holds 1;net 0 1;").gave(0), 0);
        // The first of his sneezes alone: 0 sneezes in each minute, 1 in 1 .. 4, and 2 (beside 1) from 2 on.
        PepperPolicy x = of(HEAD + "nose 9 holds 1;nose 0 holds 5;nose 0 holds 5;nose 9 holds 1;net 0 1;net 1 2;net 2 3;");
        due(x.gave(1), 1);
        due(x.gave(2), 8);
        due(of(HEAD + "nose 5 holds 5;".repeat(5) + "nose 1 holds 3;net 5 0;net 1 5;net 5 4;").gave(5), 1 + 2 + 16);
        due(of(HEAD + "nose 5 holds 5;".repeat(5) + "nose 1 holds 3;").gave(5), 0);
    }

    @Says("The PERSON who SNEEZES most often, the first of several, if anybody does. NONE: nobody; -2: there is no HOUSE.")
    static void p18_worst() {
        due(none().worst(), -2);
        due(of(HEAD).worst(), -1);
        due(of(QUIET).worst(), -1);
        due(of(HEAD + "nose 0 holds 9;".repeat(5) + "nose 1 holds 5;").worst(), 5);
        due(of(HEAD + "nose 0 holds 9;nose 1 holds 2;nose 1 holds 2;").worst(), 1);
        due(of(HEAD + "nose 1 holds 2;nose 1 holds 1;nose 1 holds 1;").worst(), 1);
        due(of(HEAD + "nose 9 holds 1;".repeat(6)).worst(), 0);
    }

    @Says("The most PERSONS who SNEEZE in one MINUTE. -2 likewise.")
    static void p19_chorus() {
        due(none().chorus(), -2);
        due(of(HEAD).chorus(), 0);
        due(of(QUIET).chorus(), 0);
        due(of(HEAD + "nose 1 holds 5;".repeat(6)).chorus(), 6);
        due(of(HEAD + "nose 9 holds 45;".repeat(2) + "nose 9 holds 9;").chorus(), 3);
        due(of("house minutes 1 dust 1 law 0 money 0 odds 0;nose 1 holds 1;").chorus(), 1);
        due(of("house minutes 30 dust 1 law 0 money 0 odds 0;nose 1 holds 30;nose 1 holds 30;").chorus(), 2);
    }

    @Says("The most MINUTES one behind the other in which nobody SNEEZES. -2: there is no HOUSE.")
    static void p20_calm() {
        due(none().calm(), -2);
        due(of(HEAD).calm(), 5);
        due(of("house minutes 30 dust 0 law 0 money 0 odds 0;").calm(), 30);
        due(of(HEAD + "nose 9 holds 1;").calm(), 0);
        String gusts = "house minutes 10 dust 0 law 0 money 0 odds 0;nose 1 holds 1;";
        due(of(gusts + "gust 1 at 3;gust 1 at 6;").calm(), 3);
        due(of(gusts + "gust 1 at 2;gust 1 at 7;").calm(), 4);
        due(of(gusts + "gust 1 at 2;gust 1 at 5;").calm(), 4);
        due(of(gusts + "gust 1 at 0;gust 1 at 9;").calm(), 8);
    }

    @Says("NONE: he SNEEZES once, or never; -2: there is none such.")
    static void p21_pause() {
        only(2, -2, of(TWO)::pause);
        due(of(QUIET).pause(0), -1);
        due(of(HEAD + "nose 1 holds 5;").pause(0), -1);
        due(of(HEAD + "nose 1 holds 2;").pause(0), 2);
        due(of(HEAD + "nose 1 holds 1;").pause(0), 1);
        String gusts = "house minutes 30 dust 0 law 0 money 0 odds 0;nose 1 holds 1;";
        due(of(gusts + "gust 1 at 0;gust 1 at 29;").pause(0), 29);
        due(of(gusts + "gust 1 at 0;gust 1 at 9;gust 1 at 16;gust 1 at 29;").pause(0), 7);
        due(of(gusts + "gust 1 at 29;").pause(0), -1);
    }

    @Says("The first MINUTE from one on in which a PERSON SNEEZES. NONE: in none; -2: there are none such.")
    static void p22_later() {
        PepperPolicy x = of(TWO);
        only(2, -2, i -> x.later(i, 0));
        only(6, -2, i -> x.later(0, i));
        int[] want = {2, 2, 2, 4, 4, -1};
        for (int m = 0; m < 6; m++) due(x.later(0, m), want[m]);
        PepperPolicy y = of("house minutes 30 dust 1 law 0 money 0 odds 0;nose 1 holds 30;nose 9 holds 1;nose 0 holds 1;");
        due(y.later(0, 29), 29);
        due(y.later(0, 0), 29);
        due(y.later(1, 0), 0);
        due(y.later(1, 29), 29);
        due(y.later(2, 0), -1);
        due(y.later(2, 29), -1);
    }

    @Says("MINUTES (0 .. minutes less 1) of POLICIES of a PERSON, as bits. -2: there is none such.")
    static void p23_covered() {
        only(2, -2, of(TWO)::covered);
        String policies = "policy 0 from 0 to 29 sum 1 pays 0;policy 1 from 4 to 29 sum 1 pays 0;policy 2 from 5 to 29 sum 1 pays 0;"
            + "policy 3 from 0 to 0 sum 1 pays 0;policy 3 from 2 to 3 sum 1 pays 0;";
        PepperPolicy x = of(HEAD + SIX + policies);
        due(x.covered(0), 31);
        due(x.covered(1), 16);
        due(x.covered(2), 0);
        due(x.covered(3), 13);
        due(x.covered(4), 0);
        due(of(HEAD.replace("5", "30").replace("money 300", "money 0") + SIX + policies).covered(0), (1 << 30) - 1);
    }

    @Says("PERSONS who SNEEZE in a MINUTE of none of their POLICIES, as bits. -2: there is no HOUSE.")
    static void p24_naked() {
        due(none().naked(), -2);
        due(of(HEAD).naked(), 0);
        due(of(QUIET).naked(), 0);
        String six = HEAD + "nose 1 holds 3;".repeat(6);
        due(of(six).naked(), 63);
        due(of(six + "policy 0 from 2 to 2 sum 1 pays 0;policy 1 from 3 to 29 sum 1 pays 0;policy 2 from 0 to 1 sum 1 pays 0;"
            + "policy 4 from 0 to 2 sum 1 pays 0;policy 5 from 2 to 29 sum 1 pays 0;").naked(), 2 + 4 + 8);
        due(of(HEAD + "nose 1 holds 2;policy 0 from 1 to 1 sum 1 pays 0;policy 0 from 3 to 3 sum 1 pays 0;").naked(), 0);
        due(of(HEAD + "nose 1 holds 2;policy 0 from 1 to 1 sum 1 pays 0;").naked(), 1);
    }

    @Says("POLICIES of which a MINUTE is (from .. to), as bits. -2: there is none such.")
    static void p25_covers() {
        only(6, -2, of(TWO)::covers);
        PepperPolicy x = of(HEAD + SIX + "policy 0 from 2 to 3 sum 1 pays 0;" + "policy 0 from 29 to 29 sum 1 pays 0;".repeat(4) + "policy 0 from 3 to 29 sum 1 pays 0;");
        int[] want = {0, 0, 1, 33, 32};
        for (int m = 0; m < 5; m++) due(x.covers(m), want[m]);
        only(5, -2, x::covers);
        due(of(HEAD + SIX + "policy 0 from 0 to 29 sum 1 pays 0;".repeat(6)).covers(4), 63);
        due(of(HEAD).covers(0), 0);
    }

    @Says("What a POLICY pays less its CLAIM (below 0, too). -100,000: there is none such.")
    static void p26_profit() {
        only(2, -100000, of(TWO)::profit);
        only(0, -100000, of(HEAD + SIX)::profit);
        String law2 = "house minutes 9 dust 1 law 2 money 0 odds 0;nose 9 holds 1;policy 0 from ";
        due(of(law2 + "0 to 9 sum 99 pays 0;").profit(0), -297);
        due(of(law2 + "0 to 9 sum 33 pays 99;").profit(0), 0);
        due(of(law2 + "9 to 9 sum 33 pays 99;").profit(0), 99);
        due(of(law2 + "9 to 9 sum 33 pays 0;").profit(0), 0);
    }

    @Says("The MINUTE at whose end MONEY is least, the first of several. -2: there is no HOUSE.")
    static void p27_lowest() {
        due(none().lowest(), -2);
        due(of(HEAD).lowest(), 0);
        due(of(HEAD + "nose 9 holds 1;policy 0 from 0 to 9 sum 9 pays 0;").lowest(), 0);
        due(of(HEAD + "nose 9 holds 1;policy 0 from 1 to 9 sum 9 pays 99;").lowest(), 1);
        due(of("house minutes 30 dust 1 law 0 money 0 odds 0;nose 1 holds 30;policy 0 from 0 to 29 sum 1 pays 99;").lowest(), 29);
        // A claim of 0 (half of 1) changes nothing.
        PepperPolicy x = of("house minutes 5 dust 1 law 3 money 0 odds 0;nose 9 holds 1;policy 0 from 1 to 4 sum 1 pays 1;");
        x.stifle(0, 1);
        due(x.lowest(), 0);
        due(x.paid(0), 2);
    }

    @Says("The greatest keenness (0 .. 9) of a PERSON, in place of his own, by which he never SNEEZES. NONE: by none; -2: there is none such.")
    static void p28_dull() {
        only(2, -2, i -> i == 0 ? 0 : of(TWO).dull(i));
        due(of("house minutes 1 dust 9 law 0 money 0 odds 0;nose 9 holds 82;").dull(0), 9);
        due(of("house minutes 1 dust 9 law 0 money 0 odds 0;nose 0 holds 81;").dull(0), 8);
        due(of("house minutes 1 dust 9 law 0 money 0 odds 0;nose 0 holds 9;").dull(0), 0);
        due(of("house minutes 1 dust 9 law 0 money 0 odds 0;nose 0 holds 10;").dull(0), 1);
        String by = "house minutes 2 dust 1 law 0 money 0 odds 0;nose 9 holds 1;nose 9 holds 5;net 0 1;";
        due(of(by).dull(1), -1);
        due(of(by.replace("holds 5", "holds 6")).dull(1), 0);
        PepperPolicy x = of(by);
        due(x.dull(1), -1);
        due(x.nose(1, 0), 9);
        due(x.sneezes(1), 3);
        x.stifle(1, 1);
        due(x.dull(1), 4);
    }

    @Says("The least holds (1 .. 99) of a PERSON, in place of his own, by which he never SNEEZES. NONE: by none; -2 likewise.")
    static void p29_bears() {
        only(2, -2, of(TWO)::bears);
        due(of(HEAD + "nose 0 holds 99;").bears(0), 1);
        due(of("house minutes 1 dust 1 law 0 money 0 odds 0;nose 1 holds 1;").bears(0), 2);
        due(of("house minutes 14 dust 1 law 0 money 0 odds 0;nose 7 holds 1;").bears(0), 99);
        due(of("house minutes 11 dust 1 law 0 money 0 odds 0;nose 9 holds 1;").bears(0), -1);
        due(of("house minutes 30 dust 9 law 0 money 0 odds 0;nose 9 holds 1;").bears(0), -1);
        PepperPolicy x = of("house minutes 14 dust 1 law 0 money 0 odds 0;nose 7 holds 1;");
        due(x.bears(0), 99);
        due(x.nose(0, 1), 1);
        due(x.all(), 14);
        x.stifle(0, 13);
        due(x.bears(0), 92);
        // He who never sneezes tickles nobody, who tickles him the less.
        due(of("house minutes 3 dust 1 law 0 money 0 odds 0;nose 1 holds 1;nose 0 holds 5;net 0 1;").bears(0), 4);
    }

    @Says("The greatest dust (0 .. 9), in place of the one told, by which nobody SNEEZES. NONE: by none; -2: there is no HOUSE.")
    static void p30_clean() {
        due(none().clean(), -2);
        due(of(HEAD).clean(), 9);
        due(of(HEAD + "nose 1 holds 46;").clean(), 9);
        due(of("house minutes 30 dust 1 law 0 money 0 odds 0;nose 1 holds 90;").clean(), 2);
        due(of(HEAD + "nose 1 holds 45;").clean(), 8);
        due(of(HEAD + "nose 1 holds 5;").clean(), 0);
        due(of(HEAD + "nose 1 holds 6;nose 1 holds 99;").clean(), 1);
        due(of(HEAD + "nose 1 holds 1;gust 1 at 4;").clean(), -1);
        due(of(HEAD + "nose 1 holds 2;gust 1 at 4;").clean(), 0);
        due(of(HEAD + "nose 1 holds 2;gust 1 at 5;").clean(), 0);
        PepperPolicy x = of(HEAD.replace("dust 1", "dust 7") + "nose 1 holds 11;gust 6 at 1;");
        due(x.clean(), 0);
        due(x.count(1), 7);
        due(x.dust(1), 13);
    }

    @Says("Other PERSONS who would SNEEZE less often, if a PERSON HELD BACK in all MINUTES, as bits. -2: there is none such.")
    static void p31_spreads() {
        only(2, -2, of(TWO)::spreads);
        due(of(QUIET).spreads(0), 0);
        String all = HEAD + "nose 9 holds 1;" + "nose 0 holds 5;".repeat(5);
        due(of(all + "net 0 1;net 0 2;net 0 3;net 0 4;net 0 5;").spreads(0), 62);
        due(of(all + "net 0 1;net 1 2;net 2 3;net 3 4;").spreads(0), 2 + 4 + 8 + 16);
        due(of(all + "net 0 1;net 1 2;net 2 3;net 3 4;").spreads(1), 4 + 8 + 16);
        due(of(all + "net 0 1;net 1 2;net 2 3;net 3 4;").spreads(5), 0);
        // As often at another time is not less often: 3 in 3 by dust, or in 2 by the net.
        due(of(HEAD.replace("minutes 5", "minutes 4") + "nose 1 holds 2;nose 1 holds 4;net 0 1;").spreads(0), 0);
        PepperPolicy x = of(all + "net 0 1;");
        due(x.spreads(0), 2);
        due(x.all(), 5 + 4);
        for (int m = 0; m < 5; m++) x.stifle(0, m);
        due(x.spreads(0), 0);
    }

    @Says("PERSONS to whom one comes by NETS from a PERSON (he, too), as bits. -2 likewise.")
    static void p32_web() {
        only(6, -2, of(HEAD + SIX)::web);
        for (int p = 0; p < 6; p++) due(of(HEAD + SIX).web(p), 1 << p);
        String[] chains = {"net 0 1;net 1 2;net 2 3;net 3 4;net 4 5;", "net 4 5;net 3 4;net 2 3;net 1 2;net 0 1;", "net 5 0;net 0 4;net 4 1;net 1 3;net 3 2;"};
        for (String chain : chains) for (int p = 0; p < 6; p++) due(of(HEAD + SIX + chain).web(p), 63);
        for (int p = 0; p < 6; p++) due(of(HEAD + SIX + "net 0 5;net 5 1;net 2 3;net 4 3;").web(p), p < 2 || p == 5 ? 35 : 28);
    }
}
