import java.util.Random;

/** Ruin is one word: what risk says of a day is what ruin says of it. */
public final class RiskTest {
    private static final int DRAWN = 150;
    private static final int PUFF = 3;
    private static int wrong = 0;

    public static void main(String[] args) {
        asTheIssueTellsIt();
        withoutPuffsItIsTheDaysRuin();
        drawnHousesWithoutPuffs();
        aLaterSneezeIsPaidWithTheFirst();
        puffsAreInTheseMinutesAlone();
        puffsAreAsGusts();
        System.out.println(wrong == 0 ? "risk and ruin agree" : wrong + " answers are wrong");
        if (wrong != 0) System.exit(1);
    }

    private static void due(String what, long got, long want) {
        if (got != want) {
            wrong++;
            System.out.println(what + ": answered " + got + ", due is " + want);
        }
    }

    private static void riskIs(String of, PepperPolicy x, int minute, long above, long below) {
        due("risk(" + minute + ", 0) of " + of, x.risk(minute, 0), above);
        due("risk(" + minute + ", 1) of " + of, x.risk(minute, 1), below);
    }

    private static void riskFollowsRuin(String text) {
        PepperPolicy x = Told.of(text);
        int ruin = x.ruin();
        for (int m = 0; m < Math.min(8, x.count(0)); m++) riskIs(text, x, m, ruin >= 0 && ruin <= m ? 1 : 0, 1);
    }

    private static void asTheIssueTellsIt() {
        PepperPolicy x = new PepperPolicy();
        due("feed", x.feed(1752135027, 1696623977, 1853191269, 1931491360, 1685418868), 20);
        due("feed", x.feed(540090476, 1635196978, 544042862, 1702436912, 544171108), 40);
        due("feed", x.feed(1931489339, 544108403, 1696609312, 1752132708, 1931490363), 60);
        due("feed", x.feed(544239468, 1768126752, 807429746, 1869422641, 544501536), 80);
        due("feed", x.feed(924873589, 1830828320, 1885436275, 540160059, 538976288), 100);
        due("house", x.house(), 3);
        // Seven sneezes count, three at most: 27 of 20, all of it paid in minute 1, where he sneezes first.
        due("money", x.money(0), 20);
        due("money", x.money(1), -7);
        due("ruin", x.ruin(), 1);
        riskIs("the issue's house", x, 0, 0, 1);
        for (int m = 1; m < 8; m++) riskIs("the issue's house", x, m, 1, 1);
    }

    private static void withoutPuffsItIsTheDaysRuin() {
        for (int law = 0; law < 4; law++) {
            for (int money = 0; money <= 30; money++) {
                String head = "house minutes 9 dust 1 law " + law + " money " + money + " odds 0; nose 2 holds 5; nose 4 holds 4; gust 3 at 2; net 0 1;";
                riskFollowsRuin(head + "policy 0 from 1 to 7 sum 9 pays 1;");
                riskFollowsRuin(head + "policy 0 from 1 to 7 sum 9 pays 1; policy 1 from 3 to 9 sum 5 pays 0; policy 1 from 7 to 8 sum 9 pays 0;");
                riskFollowsRuin(head + "policy 1 from 6 to 29 sum 30 pays 3;");
            }
        }
        // With acts, under law 3: half of 9 is paid in 3, where he sneezes first.
        PepperPolicy x = Told.of("house minutes 5 dust 1 law 3 money 0 odds 0; nose 1 holds 3; policy 0 from 1 to 4 sum 9 pays 3;");
        x.stifle(0, 2);
        due("ruin", x.ruin(), 3);
        riskIs("law 3", x, 2, 0, 1);
        riskIs("law 3", x, 3, 1, 1);
    }

    private static void drawnHousesWithoutPuffs() {
        RandomHouses houses = new RandomHouses(new Random(6));
        for (int i = 0; i < DRAWN; i++) {
            String text = houses.good();
            for (int law = 0; law < 4; law++) {
                riskFollowsRuin(text.replaceAll("odds [0-9]+", "odds 0").replaceAll("law [0-9]", "law " + law));
            }
        }
    }

    /** He sneezes in 2 and in 3 in any case, and in 0 and 1 by puffs: a third sneeze makes 27 of 20, paid in the first. */
    private static void aLaterSneezeIsPaidWithTheFirst() {
        String text = "house minutes 4 dust 0 law 2 money 0 odds 3; nose 2 holds 5; gust 3 at 2; gust 3 at 3; policy 0 from 0 to 3 sum 9 pays 20;";
        PepperPolicy x = Told.of(text);
        due("ruin", x.ruin(), -1);
        riskIs(text, x, 0, 3, 10);
        riskIs(text, x, 1, 51, 100);
        riskIs(text, x, 2, 51, 100);
        riskIs(text, x, 3, 51, 100);
        // The claim of promise 59 is by the sneezes in these alone: one of 9, in three days of ten.
        due("fair(0, 0, 0)", x.fair(0, 0, 0), 27);
        due("fair(0, 0, 1)", x.fair(0, 0, 1), 10);
    }

    /** Each puff is a sneeze and nothing else is: three are needed, and behind the minute asked for there are none. */
    private static void puffsAreInTheseMinutesAlone() {
        String text = "house minutes 4 dust 0 law 2 money 0 odds 10; nose 2 holds 5; policy 0 from 0 to 3 sum 9 pays 20;";
        PepperPolicy x = Told.of(text);
        riskIs(text, x, 0, 0, 1);
        riskIs(text, x, 1, 0, 1);
        riskIs(text, x, 2, 1, 1);
        riskIs(text, x, 3, 1, 1);
        x = Told.of(text.replace("odds 10", "odds 5"));
        riskIs(text, x, 2, 1, 8);
        // Three of four, or four: five of sixteen.
        riskIs(text, x, 3, 5, 16);
    }

    /** But for law 1, which asks for gusts told, a puff is as a gust of 3: each set of them is a house of its own. */
    private static void puffsAreAsGusts() {
        RandomHouses houses = new RandomHouses(new Random(66));
        for (int i = 0; i < DRAWN; i++) {
            String text = houses.good().replaceAll("gust[^;]*;\n?", "").replace("law 1", "law 2");
            PepperPolicy x = Told.of(text);
            int minutes = x.count(0);
            int odds = x.count(4);
            for (int m = 0; m < Math.min(4, minutes); m++) riskIs(text, x, m, byGusts(text, m + 1, odds));
        }
    }

    private static void riskIs(String of, PepperPolicy x, int minute, long[] fraction) {
        riskIs(of, x, minute, fraction[0], fraction[1]);
    }

    private static long[] byGusts(String text, int n, int odds) {
        long above = 0;
        long below = 1;
        for (int m = 0; m < n; m++) below *= 10;
        for (int set = 0; set < 1 << n; set++) {
            StringBuilder more = new StringBuilder(text);
            long weight = 1;
            for (int m = 0; m < n; m++) {
                boolean puff = (set >> m) % 2 == 1;
                weight *= puff ? odds : 10 - odds;
                if (puff) more.append("gust ").append(PUFF).append(" at ").append(m).append(";");
            }
            int ruin = Told.of(more.toString()).ruin();
            if (ruin >= 0 && ruin < n) above += weight;
        }
        long a = above;
        long b = below;
        while (a != 0) {
            long rest = b % a;
            b = a;
            a = rest;
        }
        return new long[] {above / b, below / b};
    }
}
