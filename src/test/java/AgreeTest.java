import java.util.Random;

/** Promises that speak of one thing in two ways say the same of it: houses drawn, told anew, acted in. */
public final class AgreeTest {
    private static final int HOUSES = 200;
    private static int wrong = 0;

    private final String text;
    private final int minutes;
    private final int persons;
    private final int policies;
    private final int law;
    private PepperPolicy told;
    private int asked = 0;

    private AgreeTest(String text) {
        this.text = text;
        minutes = x().count(0);
        law = x().count(2);
        persons = x().count(5);
        policies = x().count(8);
    }

    /** The house, for a question: an object is used for at most 512 calls, some 50 of which tell it. */
    private PepperPolicy x() {
        if (asked % 400 == 0) told = Told.of(text);
        asked++;
        return told;
    }

    public static void main(String[] args) {
        RandomHouses houses = new RandomHouses(new Random(10));
        for (int i = 0; i < HOUSES && wrong < 10; i++) {
            String text = houses.good();
            AgreeTest test = new AgreeTest(text);
            test.whoSneezesWhen();
            test.whatIsClaimed();
            test.moneyIsWhatIsLeft();
            test.toldOtherwise();
            test.linesLeftOutOrPutIn();
            test.menuAndPrice();
            test.heldBackByActs();
            test.snuffByActs();
            test.aDayOfPuffsIsOneOfGusts();
            new AgreeTest(text.replaceAll("odds [0-9]+", "odds 0")).nothingIsLeftToChance();
            new AgreeTest(text.replaceAll("odds [0-9]+", "odds 10")).nothingIsLeftToChance();
        }
        System.out.println(wrong == 0 ? "the promises agree" : wrong + " do not agree");
        if (wrong != 0) System.exit(1);
    }

    private void due(String what, long got, long want) {
        if (got != want) {
            wrong++;
            System.out.println(what + " is " + got + ", not " + want + ", in " + text);
        }
    }

    private static int from(int minute) {
        return -1 << minute;
    }

    private static int firstOf(int bits) {
        return bits == 0 ? -1 : Integer.numberOfTrailingZeros(bits);
    }

    private static boolean in(int bits, int i) {
        return (bits >> i & 1) == 1;
    }

    private void whoSneezesWhen() {
        int total = 0;
        int chorus = 0;
        for (int m = 0; m < minutes; m++) {
            int who = 0;
            for (int p = 0; p < persons; p++) who |= in(x().sneezes(p), m) ? 1 << p : 0;
            due("who", x().who(m), who);
            chorus = Math.max(chorus, Integer.bitCount(who));
            total += Integer.bitCount(who);
        }
        due("all", x().all(), total);
        due("chorus", x().chorus(), chorus);
        int naked = 0;
        for (int p = 0; p < persons; p++) {
            due("first", x().first(p), firstOf(x().sneezes(p)));
            for (int m = 0; m < minutes; m++) {
                due("later", x().later(p, m), firstOf(x().sneezes(p) & from(m)));
                if (in(x().sneezes(p), m)) due("tickle of one who sneezes", x().tickle(p, m), 0);
            }
            if ((x().sneezes(p) & ~x().covered(p)) != 0) naked |= 1 << p;
            due("loses", x().loses(p, p == 0 ? persons - 1 : 0, 0, 0), persons == 1 ? -2 : 3 * Integer.bitCount(x().sneezes(p)));
        }
        due("naked", x().naked(), naked);
    }

    private void whatIsClaimed() {
        int claims = 0;
        int dear = -1;
        for (int q = 0; q < policies; q++) {
            // By law 3 half of 1 is nothing, though it is paid.
            boolean nothing = law == 3 && x().policy(q, 3) == 1;
            due("paid at all", x().paid(q) >= 0 && !nothing ? 1 : 0, x().claim(q) > 0 && !nothing ? 1 : 0);
            due("profit", x().profit(q), x().policy(q, 4) - x().claim(q));
            if (x().claim(q) > 0) claims |= 1 << q;
            if (-x().profit(q) > (dear < 0 ? 0 : -x().profit(dear))) dear = q;
        }
        due("claims", x().claims(), claims);
        due("dear", x().dear(), dear);
    }

    private void moneyIsWhatIsLeft() {
        int ruin = -1;
        int lowest = 0;
        for (int m = minutes - 1; m >= 0; m--) {
            int money = x().count(3);
            for (int q = 0; q < policies; q++) money += x().policy(q, 4) - (x().paid(q) >= 0 && x().paid(q) <= m ? x().claim(q) : 0);
            due("money", x().money(m), money);
            if (money < 0) ruin = m;
            if (m == minutes - 1 || money <= x().money(lowest)) lowest = m;
        }
        due("ruin", x().ruin(), ruin);
        due("lowest", x().lowest(), lowest);
        due("by the law told", x().by(law), x().money(minutes - 1));
        int best = 3;
        for (int l = 3; l >= 0; l--) {
            due("by", x().by(l), Told.of(text.replaceAll("law [0-9]", "law " + l)).money(minutes - 1));
            if (x().by(l) >= x().by(best)) best = l;
        }
        due("law", x().law(), best);
        int reserve = x().reserve();
        for (int money : new int[] {reserve, reserve - 1}) {
            if (money < 0) continue;
            PepperPolicy y = Told.of(text.replaceAll("money [0-9]+", "money " + money));
            due("ruin with the reserve, or one less", y.ruin() < 0 ? 1 : 0, money == reserve ? 1 : 0);
        }
    }

    private String line(String word, int i, String with) {
        StringBuilder told = new StringBuilder();
        int seen = 0;
        for (String line : text.split(";")) {
            if (line.isBlank()) continue;
            boolean that = line.strip().startsWith(word) && seen++ == i;
            told.append(that ? with : line + ";");
        }
        return told.toString();
    }

    private void toldOtherwise() {
        int clean = x().clean();
        for (int dust = 0; dust <= 9; dust++) {
            int all = Told.of(text.replaceAll("dust [0-9]", "dust " + dust)).all();
            if (dust == clean || dust > clean) due("all by other dust", all == 0 ? 1 : 0, dust == clean ? 1 : 0);
        }
        for (int p = 0; p < persons; p++) {
            int dull = x().dull(p);
            for (int keen = Math.max(0, dull); keen <= 9; keen++) {
                PepperPolicy y = Told.of(line("nose", p, "nose " + keen + " holds " + x().nose(p, 1) + ";"));
                due("sneezes by other keenness", y.sneezes(p) == 0 ? 1 : 0, keen == dull ? 1 : 0);
            }
            int bears = x().bears(p) < 0 ? 100 : x().bears(p);
            for (int holds = 1; holds <= Math.min(99, bears); holds++) {
                PepperPolicy y = Told.of(line("nose", p, "nose " + x().nose(p, 0) + " holds " + holds + ";"));
                due("sneezes by other holds", y.sneezes(p) == 0 ? 1 : 0, holds == bears ? 1 : 0);
            }
        }
    }

    private void linesLeftOutOrPutIn() {
        int best = -1;
        for (int n = 0; n < x().count(7); n++) {
            due("cut", x().cut(n), Told.of(line("net", n, "")).all());
            if (x().cut(n) < (best < 0 ? x().all() : x().cut(best))) best = n;
        }
        due("cuts", x().cuts(), best);
        if (x().count(6) == 5 || persons == 0) return;
        int p = persons - 1;
        int m = minutes / 2;
        PepperPolicy y = Told.of(text);
        y.row(0, 0, 2);
        y.write(0, 0, p);
        y.write(0, 1, m);
        int pairs = 0;
        int when = 0;
        int first = -1;
        for (int at = minutes - 1; at >= 0; at--) {
            for (int gust = 9; gust > 0; gust--) {
                if (!in(Told.of(text + "gust " + gust + " at " + at + ";").sneezes(p), m)) continue;
                pairs++;
                when |= 1 << at;
                first = 10 * at + gust;
            }
        }
        due("which", y.which(0), pairs);
        due("when", y.when(0), when);
        due("gust", y.gust(0), first);
        due("leaves", y.leaves(0) <= pairs ? 1 : 0, 1);
        due("ask", y.ask(0) < 0 ? 1 : 0, y.leaves(0) == pairs ? 1 : 0);
    }

    private void menuAndPrice() {
        for (int q = 0; q < policies; q++) {
            int price = x().price(q);
            for (int pays : new int[] {price, price - 1}) {
                if (pays < 0 || pays > 99) continue;
                PepperPolicy y = Told.of(text);
                y.rate(q, pays);
                boolean taken = false;
                for (int p = 0; p < persons; p++) {
                    taken |= y.takes(p) == q;
                    due("gains without", y.takes(p) < 0 ? y.gains(p) : 0, 0);
                    due("gains", y.gains(p) > 0 ? 1 : 0, y.takes(p) >= 0 ? 1 : 0);
                }
                due("taken at its price, or one less", taken ? 1 : 0, pays == price ? 0 : 1);
            }
        }
    }

    private void heldBackByActs() {
        for (int q = 0; q < policies; q++) {
            int person = x().policy(q, 0);
            int holds = x().holds(q);
            due("hold", x().hold(q), Integer.bitCount(holds));
            // What he does not sneeze comes back to him by no net only where he has none.
            if (x().beside(person) != 0) continue;
            PepperPolicy y = Told.of(text);
            for (int m = 0; m < minutes; m++) if (in(holds, m)) y.stifle(person, m);
            due("claim of one who holds back", y.claim(q), 0);
            due("hold of one who holds back", y.hold(q), Integer.bitCount(holds));
        }
        for (int p = 0; p < persons; p++) {
            int spreads = x().spreads(p);
            int other = p == 0 ? persons - 1 : 0;
            int loses = x().loses(other, p, 0, 1);
            PepperPolicy y = Told.of(text);
            for (int m = 0; m < minutes; m++) y.stifle(p, m);
            for (int o = 0; o < persons; o++) {
                if (o != p) due("spreads", in(spreads, o) ? 1 : 0, Integer.bitCount(y.sneezes(o)) < Integer.bitCount(x().sneezes(o)) ? 1 : 0);
            }
            due("sneezes of one who holds back in all", y.sneezes(p), 0);
            if (other != p) due("loses", loses, 3 * Integer.bitCount(y.sneezes(other)));
        }
    }

    private void snuffByActs() {
        for (int q = 0; q < policies; q++) {
            int person = x().policy(q, 0);
            int now = x().claim(q);
            int frauds = x().frauds(q);
            due("snuff", x().snuff(q), firstOf(frauds));
            PepperPolicy y = Told.of(text);
            for (int m = 0; m < minutes; m++) {
                int sneezed = y.sniff(person, m);
                due("sniff", sneezed, in(y.sneezes(person), m) ? 1 : 0);
                due("frauds", in(frauds, m) ? 1 : 0, y.claim(q) > now ? 1 : 0);
                y.undo();
            }
        }
    }

    private void aDayOfPuffsIsOneOfGusts() {
        String bare = text.replaceAll("gust[^;]*;", "").replace("law 1", "law 0");
        PepperPolicy y = Told.of(bare);
        for (int seed = 0; seed < 40; seed++) {
            int puffs = y.drawn(seed, 0);
            if (Integer.bitCount(puffs) > 5) continue;
            StringBuilder gusts = new StringBuilder(bare);
            for (int m = 0; m < minutes; m++) if (in(puffs, m)) gusts.append("gust 3 at ").append(m).append(";");
            PepperPolicy z = Told.of(gusts.toString());
            due("drawn, how often", y.drawn(seed, 1), z.all());
            due("drawn, ruin", y.drawn(seed, 2), z.ruin());
            for (int q = 0; q < policies; q++) due("luck", y.luck(seed, 1, q), z.claim(q) > 0 ? 1 : 0);
        }
    }

    /** With odds 0 or 10 there is one day alone that can be drawn: chance, fair and risk speak of it. */
    private void nothingIsLeftToChance() {
        boolean puffs = x().count(4) == 10;
        due("drawn, puffs", x().drawn(77, 0), puffs ? (1 << minutes) - 1 : 0);
        if (!puffs) {
            due("drawn, how often", x().drawn(77, 1), x().all());
            due("drawn, ruin", x().drawn(77, 2), x().ruin());
        }
        for (int m = 0; m < Math.min(8, minutes); m++) {
            due("risk, below", x().risk(m, 1), 1);
            // By law 2 what is paid hangs on later sneezes, and these on later puffs, of which there are none (58).
            boolean whole = m == minutes - 1 || law != 2 || !puffs;
            int ruin = x().drawn(77, 2);
            if (whole) due("risk", x().risk(m, 0), ruin >= 0 && ruin <= m ? 1 : 0);
            for (int q = 0; q < policies; q++) {
                due("fair, below", x().fair(q, m, 1), 1);
                if (m == minutes - 1) due("luck", x().luck(77, 20, q), x().fair(q, m, 0) > 0 ? 20 : 0);
                if (!puffs && law != 2) due("fair", x().fair(q, m, 0), x().paid(q) >= 0 && x().paid(q) <= m ? x().claim(q) : 0);
                if (!puffs && m == minutes - 1) due("fair of the whole day", x().fair(q, m, 0), x().claim(q));
            }
            for (int p = 0; p < persons; p++) {
                due("chance, below", x().chance(p, m, 1), 1);
                if (!puffs) due("chance", x().chance(p, m, 0), x().first(p) >= 0 && x().first(p) <= m ? 1 : 0);
            }
        }
    }
}
