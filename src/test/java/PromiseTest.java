import java.lang.reflect.Method;

/** Promise by promise, with answers reckoned by hand. A method p.. stands for the promise of its number. */
public final class PromiseTest {
    /**
     * Dust is 1 1 4 1 1 1. The first has 2 4 0 2 0 2 at the ends (he sneezes in 2, and in 4 by the net),
     * the second 1 2 6 0 1 7 (he sneezes in 3, by the net).
     */
    private static final String TWO = "house minutes 6 dust 1 law 0 money 10 odds 3 ; nose 2 holds 5 ; nose 1 holds 8 ;"
        + " gust 3 at 2 ; net 0 1 ; policy 0 from 1 to 3 sum 30 pays 4 ; policy 1 from 0 to 5 sum 9 pays 2 ;";
    /** The first sneezes in 0 1 2, the second by him in 1 2, the third by the second in 2. */
    private static final String CHAIN = "house minutes 3 dust 1 law 2 money 0 odds 10 ; nose 5 holds 5 ; nose 0 holds 5 ;"
        + " nose 0 holds 5 ; net 0 1 ; net 1 2 ;";
    /** Nobody sneezes: 1 2 3 and 0 0 0 of 5. */
    private static final String QUIET = "house minutes 3 dust 1 law 0 money 0 odds 0 ; nose 1 holds 5 ; nose 0 holds 5 ; net 0 1 ;";
    /** A puff makes him sneeze, nothing else. */
    private static final String PUFF = "house minutes 1 dust 0 law 0 money 5 odds 5 ; nose 2 holds 5 ; policy 0 from 0 to 0 sum 9 pays 0 ;";
    private static final String HEAD = "house minutes 5 dust 1 law 0 money 50 odds 0 ;";

    private static int wrong = 0;
    private static String now = "";

    public static void main(String[] args) throws Exception {
        for (int i = 1; i <= 73; i++) {
            now = "p" + i;
            Method m = PromiseTest.class.getDeclaredMethod(now);
            m.invoke(null);
        }
        System.out.println(wrong == 0 ? "all promises are kept" : wrong + " answers are wrong");
        if (wrong != 0) System.exit(1);
    }

    private static void due(long got, long want) {
        if (got != want) {
            wrong++;
            StackTraceElement at = new Throwable().getStackTrace()[1];
            System.out.println(now + ", line " + at.getLineNumber() + ": answered " + got + ", due is " + want);
        }
    }

    private static void put(PepperPolicy x, String text) {
        Told.put(x, text);
    }

    private static PepperPolicy of(String text) {
        PepperPolicy x = new PepperPolicy();
        put(x, text);
        if (x.house() < 0) {
            wrong++;
            System.out.println(now + ": fault " + x.fault(0) + " at " + x.fault(1) + " in " + text);
        }
        return x;
    }

    private static void faultOf(String text, int fault, int place) {
        PepperPolicy x = of("house minutes 2 dust 3 law 0 money 0 odds 0 ;");
        put(x, text);
        due(x.house(), fault == 0 ? text.split(";", -1).length - 1 : -4);
        due(x.fault(0), fault);
        due(x.fault(1), place);
        due(x.count(11), 0);
        if (fault != 0) due(x.dust(1), 3);
    }

    private static String laws(int law) {
        return "house minutes 5 dust 1 law " + law + " money 50 odds 0 ; nose 5 holds 5 ; gust 1 at 1 ;"
            + " policy 0 from 1 to 4 sum 7 pays 3 ; policy 0 from 0 to 0 sum 1 pays 0 ; policy 0 from 0 to 1 sum 1 pays 0 ;";
    }

    static void p1() {
        PepperPolicy x = new PepperPolicy();
        due(x.all(), -2);
        due(x.count(10), 0);
        due(x.count(11), 0);
        due(x.count(12), 0);
        due(x.nose(0, 0), -2);
        due(PepperPolicy.NONE, -1);
    }

    static void p2() {
        PepperPolicy x = new PepperPolicy();
        due(x.feed(0x686f7573, 0x65206d69, 0x6e757465, 0x73203920, 0x64757374), 20);
        due(x.feed(0x2030206c, 0x61772030, 0x206d6f6e, 0x65792030, 0x206f6464), 40);
        due(x.feed(0x73203020, 0x3b202020, 0x20202020, 0x20202020, 0x20202020), 60);
        due(x.house(), 1);
        due(x.count(0), 9);
        for (int i = 1; i <= 45; i++) due(x.feed(-1, Integer.MIN_VALUE, 255, 256, 1 << 24), 20 * i);
        due(x.feed(0, 0, 0, 0, 0), -1);
        due(x.count(11), 900);
        due(x.end(881), 881);
        due(x.feed(0, 0, 0, 0, 0), -1);
        due(x.end(880), 880);
        due(x.feed(0, 0, 0, 0, 0), 900);
        x.end(0);
        x.feed(-1, -1, -1, -1, -1);
        due(x.house(), -4);
        due(x.fault(1), 0);
    }

    static void p3() {
        PepperPolicy x = new PepperPolicy();
        due(x.end(0), 0);
        due(x.end(1), -1);
        x.feed(0x61616161, 0x61616161, 0x61616161, 0x61616161, 0x61616161);
        due(x.end(-1), -1);
        due(x.end(21), -1);
        due(x.count(11), 20);
        due(x.end(20), 20);
        due(x.end(7), 7);
        due(x.end(8), -1);
        due(x.count(11), 7);
    }

    static void p4() {
        PepperPolicy x = of(TWO);
        due(x.count(10), 7);
        x.stifle(0, 2);
        put(x, "house minutes 2 dust 1 law 0 money 0 odds 0 ;house");
        due(x.house(), -4);
        due(x.count(0), 6);
        due(x.count(9), 1);
        due(x.count(11), 0);
        put(x, "house minutes 2 dust 1 law 0 money 0 odds 0;nose 1 holds 1;");
        due(x.house(), 2);
        due(x.count(9), 0);
        due(x.count(5), 1);
        due(x.count(6), 0);
        due(x.sneezes(0), 3);
        put(x, " \n ");
        due(x.house(), 0);
        due(x.all(), -2);
        due(x.nose(0, 0), -2);
    }

    static void p5() {
        PepperPolicy x = new PepperPolicy();
        due(x.fault(0), 0);
        due(x.fault(1), -1);
        due(x.fault(2), -1);
        due(x.fault(-1), -1);
        faultOf("nose 1 holds 1 ;", 1, 0);
        faultOf("  \n; ", 1, 3);
        faultOf("house", 1, 5);
        faultOf("house  ", 1, 7);
        faultOf("House", 1, 0);
        faultOf("houses minutes 5", 1, 0);
        faultOf("housE", 1, 0);
        faultOf("house minutes 0 dust 1", 2, 14);
        faultOf("house minutes 31 dust 1", 2, 14);
        faultOf("house minutes 30dust 9 law 3 money 999 odds 10;", 0, -1);
        faultOf("house minutes 0000000000000001 dust 0 law 0 money 0 odds 0;", 0, -1);
        faultOf("house minutes 99999999999999999999", 2, 14);
        faultOf("house minutes 4294967297 dust", 2, 14);
        faultOf("house minutes ; dust", 1, 14);
        faultOf("house minutes -1", 1, 14);
        faultOf("house minutes\t1", 1, 13);
        faultOf(HEAD.replace("dust 1", "dust 10"), 2, 21);
        faultOf(HEAD.replace("law 0", "law 4"), 2, 27);
        faultOf(HEAD.replace("money 50", "money 1000"), 2, 35);
        faultOf(HEAD.replace("odds 0", "odds 11"), 2, 43);
        faultOf(HEAD.replace(" ;", " "), 1, 45);
        faultOf(HEAD + "house", 1, 46);
        faultOf(HEAD + ";", 1, 46);
        faultOf(HEAD + "gusts 1", 1, 46);
        faultOf(HEAD + "5", 1, 46);
        faultOf(HEAD + "nose 10 holds 1 ;", 2, 51);
        faultOf(HEAD + "nose 9 holds 0 ;", 2, 59);
        faultOf(HEAD + "nose 9 holds 100 ;", 2, 59);
        faultOf(HEAD + "nose 9 holds 99 ;nose 0holds 1;", 0, -1);
        faultOf(HEAD + "gust 0 at 0 ;", 2, 51);
        faultOf(HEAD + "gust 10 at 0 ;", 2, 51);
        faultOf(HEAD + "gust 9 at 30 ;", 2, 56);
        faultOf(HEAD + "gust 9 at 29 ;", 0, -1);
        faultOf(HEAD + "net 0 1 ;", 2, 50);
        String two = HEAD + "nose 1 holds 1;nose 1 holds 1;";
        faultOf(two + "net 0 0 ;", 2, 82);
        faultOf(two + "net 0 2 ;", 2, 82);
        faultOf(two + "net 2 2 ;", 2, 80);
        faultOf(two + "net 1 0 ;", 0, -1);
        faultOf(two + "policy 2 from 0 to 0 sum 1 pays 0 ;", 2, 83);
        faultOf(two + "policy 1 from 30 to 0 sum 1 pays 0 ;", 2, 90);
        faultOf(two + "policy 1 from 9 to 8 sum 1 pays 0 ;", 2, 95);
        faultOf(two + "policy 1 from 9 to 30 sum 1 pays 0 ;", 2, 95);
        faultOf(two + "policy 1 from 9 to 9 sum 0 pays 0 ;", 2, 101);
        faultOf(two + "policy 1 from 9 to 9 sum 100 pays 0 ;", 2, 101);
        faultOf(two + "policy 1 from 9 to 9 sum 99 pays 100 ;", 2, 109);
        faultOf(two + "policy 1 from 29 to 29 sum 99 pays 99 ;", 0, -1);
        faultOf(HEAD + "nose 1 holds 1;".repeat(6), 0, -1);
        faultOf(HEAD + "nose 1 holds 1;".repeat(6) + "nose x", 3, 136);
        faultOf(HEAD + "gust 1 at 0;".repeat(5), 0, -1);
        faultOf(HEAD + "gust 1 at 0;".repeat(5) + "gust", 3, 106);
        faultOf(two + "net 0 1;".repeat(8), 0, -1);
        faultOf(two + "net 0 1;".repeat(8) + "net 9 9;", 3, 140);
        String policies = two + "policy 0 from 0 to 0 sum 1 pays 0;".repeat(6);
        faultOf(policies, 0, -1);
        faultOf(policies + "policy", 3, 76 + 204);
        faultOf(HEAD + "\u00e9", 1, 46);
        x = of(HEAD);
        put(x, "x");
        x.house();
        put(x, "");
        due(x.house(), 0);
        due(x.fault(0), 0);
        due(x.fault(1), -1);
    }

    static void p6() {
        PepperPolicy x = of(TWO);
        due(x.nose(0, 0), 2);
        due(x.nose(0, 1), 5);
        due(x.nose(1, 1), 8);
        due(x.nose(2, 0), -2);
        due(x.nose(-1, 0), -2);
        due(x.nose(0, 2), -2);
        due(x.nose(0, -1), -2);
    }

    static void p7() {
        PepperPolicy x = of(TWO);
        int[] want = {1, 0, 5, 9, 2};
        for (int i = 0; i < 5; i++) due(x.policy(1, i), want[i]);
        due(x.policy(0, 1), 1);
        due(x.policy(2, 0), -2);
        due(x.policy(-1, 0), -2);
        due(x.policy(0, 5), -2);
        due(x.policy(0, -1), -2);
    }

    static void p8() {
        PepperPolicy x = of(CHAIN);
        due(x.beside(0), 2);
        due(x.beside(1), 5);
        due(x.beside(2), 2);
        due(x.beside(3), -2);
        due(of(HEAD + "nose 1 holds 1;").beside(0), 0);
    }

    static void p9() {
        PepperPolicy x = of(HEAD + "gust 9 at 4; gust 8 at 4; gust 7 at 5;");
        due(x.dust(0), 1);
        due(x.dust(4), 18);
        due(x.dust(5), -2);
        due(x.dust(-1), -2);
    }

    static void p10() {
        PepperPolicy x = of(TWO);
        due(x.sneezes(0), 4 + 16);
        due(x.sneezes(1), 8);
        due(x.sneezes(2), -2);
        due(of(CHAIN.replace("net 0 1", "net 0 1 ; net 1 0").replace("nose 0 holds 5 ; nose", "nose 0 holds 10 ; nose")).sneezes(1), 6);
        due(of("house minutes 30 dust 1 law 0 money 0 odds 0; nose 9 holds 9;").sneezes(0), (1 << 30) - 1);
    }

    static void p11() {
        PepperPolicy x = of(TWO);
        due(x.first(0), 2);
        due(x.first(1), 3);
        due(x.first(2), -2);
        due(of(QUIET).first(0), -1);
        due(of(CHAIN).first(0), 0);
        due(of("house minutes 30 dust 1 law 0 money 0 odds 0; nose 1 holds 30;").first(0), 29);
    }

    static void p12() {
        due(of(TWO).all(), 3);
        due(of(CHAIN).all(), 6);
        due(of(HEAD).all(), 0);
        due(new PepperPolicy().all(), -2);
    }

    static void p13() {
        PepperPolicy x = of(CHAIN);
        due(x.who(0), 1);
        due(x.who(1), 3);
        due(x.who(2), 7);
        due(x.who(3), -2);
        due(x.who(-1), -2);
    }

    static void p14() {
        PepperPolicy x = of(TWO);
        int[][] want = {{2, 4, 0, 2, 0, 2}, {1, 2, 6, 0, 1, 7}};
        for (int p = 0; p < 2; p++) for (int m = 0; m < 6; m++) due(x.tickle(p, m), want[p][m]);
        due(x.tickle(2, 0), -2);
        due(x.tickle(0, 6), -2);
        due(x.tickle(0, -1), -2);
    }

    static void p15() {
        PepperPolicy x = of(TWO);
        due(x.itch(0), 4);
        due(x.itch(1), 7);
        due(x.itch(2), -2);
        x.stifle(0, 2);
        due(x.itch(0), 12);
        due(of(HEAD + "nose 0 holds 9;").itch(0), 0);
        due(of(HEAD + "nose 5 holds 9;").itch(0), 5);
    }

    static void p16() {
        PepperPolicy x = of(TWO);
        due(x.caught(0), 5);
        due(x.caught(1), 10);
        due(x.caught(-1), -2);
        x = of(CHAIN.replace("net 0 1", "net 0 1 ; net 0 1"));
        due(x.caught(1), 20);
        due(x.caught(0), 10);
    }

    static void p17() {
        PepperPolicy x = of(CHAIN);
        due(x.gave(0), 0);
        due(x.gave(1), 1);
        due(x.gave(2), 2);
        due(x.gave(3), -2);
        due(of(QUIET).gave(0), 0);
        due(of(HEAD + "nose 1 holds 2; nose 1 holds 2; net 0 1;").gave(0), 0);
        due(of(CHAIN.replace("net 0 1 ;", "").replace("nose 0 holds 5 ; nose", "nose 1 holds 2 ; nose")).gave(1), 0);
    }

    static void p18() {
        due(of(TWO).worst(), 0);
        due(of(QUIET).worst(), -1);
        due(of(HEAD).worst(), -1);
        due(of(HEAD + "nose 1 holds 9; nose 1 holds 5;").worst(), 1);
        due(of(HEAD + "nose 0 holds 1; nose 5 holds 5; nose 5 holds 5;").worst(), 1);
        due(new PepperPolicy().worst(), -2);
    }

    static void p19() {
        due(of(TWO).chorus(), 1);
        due(of(CHAIN).chorus(), 3);
        due(of(QUIET).chorus(), 0);
        due(of(HEAD.replace("dust 1", "dust 0") + "nose 9 holds 81; gust 9 at 0;").chorus(), 1);
        due(new PepperPolicy().chorus(), -2);
    }

    static void p20() {
        due(of(TWO).calm(), 2);
        due(of(CHAIN).calm(), 0);
        due(of(QUIET).calm(), 3);
        due(of(HEAD + "nose 1 holds 1; gust 1 at 0;").calm(), 0);
        due(of("house minutes 9 dust 0 law 0 money 0 odds 0; nose 1 holds 1; gust 1 at 1; gust 1 at 5;").calm(), 3);
        due(new PepperPolicy().calm(), -2);
    }

    static void p21() {
        PepperPolicy x = of(TWO);
        due(x.pause(0), 2);
        due(x.pause(1), -1);
        due(x.pause(2), -2);
        due(of(CHAIN).pause(0), 1);
        due(of(QUIET).pause(0), -1);
        due(of("house minutes 9 dust 0 law 0 money 0 odds 0; nose 1 holds 1; gust 1 at 0; gust 1 at 4; gust 1 at 7;").pause(0), 3);
    }

    static void p22() {
        PepperPolicy x = of(TWO);
        due(x.later(0, 0), 2);
        due(x.later(0, 2), 2);
        due(x.later(0, 3), 4);
        due(x.later(0, 5), -1);
        due(x.later(0, 6), -2);
        due(x.later(2, 0), -2);
        due(x.later(0, -1), -2);
    }

    static void p23() {
        PepperPolicy x = of(TWO);
        due(x.covered(0), 14);
        due(x.covered(1), 63);
        due(x.covered(2), -2);
        x = of(HEAD + "nose 1 holds 9; nose 1 holds 9; policy 0 from 0 to 0 sum 1 pays 0; policy 0 from 4 to 29 sum 1 pays 0;");
        due(x.covered(0), 17);
        due(x.covered(1), 0);
    }

    static void p24() {
        due(of(TWO).naked(), 1);
        due(of(CHAIN).naked(), 7);
        due(of(TWO.replace("to 3", "to 4")).naked(), 0);
        due(of(QUIET).naked(), 0);
        due(new PepperPolicy().naked(), -2);
    }

    static void p25() {
        PepperPolicy x = of(TWO);
        due(x.covers(0), 2);
        due(x.covers(1), 3);
        due(x.covers(3), 3);
        due(x.covers(4), 2);
        due(x.covers(6), -2);
        due(x.covers(-1), -2);
    }

    static void p26() {
        PepperPolicy x = of(TWO);
        due(x.profit(0), -26);
        due(x.profit(1), -7);
        due(x.profit(2), -100000);
        due(x.profit(-1), -100000);
        due(of(TWO.replace("from 1 to 3", "from 0 to 1")).profit(0), 4);
    }

    static void p27() {
        due(of(TWO).lowest(), 3);
        due(of(HEAD).lowest(), 0);
        due(of(TWO.replace("policy 1 from 0 to 5 sum 9 pays 2 ;", "")).lowest(), 2);
        due(new PepperPolicy().lowest(), -2);
    }

    static void p28() {
        PepperPolicy x = of(TWO);
        due(x.dull(0), -1);
        due(x.dull(1), 0);
        due(x.dull(2), -2);
        due(of(QUIET).dull(0), 1);
        due(of(HEAD.replace("dust 1", "dust 0") + "nose 9 holds 1;").dull(0), 9);
        due(of(TWO).nose(0, 0), 2);
    }

    static void p29() {
        PepperPolicy x = of(TWO);
        due(x.bears(0), 24);
        due(x.bears(1), 15);
        due(x.bears(-1), -2);
        due(of(QUIET).bears(0), 4);
        due(of(QUIET).bears(1), 1);
        due(of(HEAD.replace("5 dust", "1 dust") + "nose 5 holds 5;").bears(0), 6);
        due(of("house minutes 11 dust 1 law 0 money 0 odds 0; nose 9 holds 9;").bears(0), -1);
        due(of("house minutes 11 dust 0 law 0 money 0 odds 0; nose 7 holds 9; gust 7 at 3; gust 7 at 9;").bears(0), 99);
        x = of("house minutes 1 dust 9 law 0 money 0 odds 0; nose 9 holds 9;");
        x.stifle(0, 0);
        due(x.bears(0), 1);
    }

    static void p30() {
        due(of(TWO).clean(), -1);
        due(of(QUIET).clean(), 1);
        due(of(CHAIN).clean(), 0);
        due(of(HEAD).clean(), 9);
        due(of(HEAD + "nose 1 holds 10; gust 4 at 1; gust 1 at 1;").clean(), 0);
        due(new PepperPolicy().clean(), -2);
    }

    static void p31() {
        PepperPolicy x = of(CHAIN);
        due(x.spreads(0), 6);
        due(x.spreads(1), 4);
        due(x.spreads(2), 0);
        due(x.spreads(3), -2);
        due(of(TWO).spreads(0), 0);
        due(of(HEAD + "nose 0 holds 5; nose 5 holds 5; net 0 1;").spreads(1), 1);
    }

    static void p32() {
        PepperPolicy x = of(HEAD + "nose 1 holds 9;".repeat(6) + "net 5 3; net 4 3; net 2 4; net 0 1;");
        due(x.web(0), 3);
        due(x.web(1), 3);
        due(x.web(2), 60);
        due(x.web(5), 60);
        due(x.web(6), -2);
        due(of(HEAD + "nose 1 holds 9;").web(0), 1);
        due(of(HEAD + "nose 1 holds 9;".repeat(6) + "net 4 5; net 3 4; net 2 3; net 1 2; net 0 1;").web(0), 63);
    }

    static void p33() {
        PepperPolicy x = of(TWO);
        due(x.claim(0), 30);
        due(x.claim(1), 9);
        due(x.claim(2), -2);
        due(of(laws(0)).claim(0), 7);
        due(of(laws(1)).claim(0), 7);
        due(of(laws(1).replace("from 1 to 4", "from 1 to 1")).claim(0), 0);
        due(of(laws(2)).claim(0), 21);
        due(of(laws(2).replace("from 1 to 4", "from 1 to 2")).claim(0), 14);
        x = of(laws(3));
        due(x.claim(0), 7);
        x.stifle(0, 0);
        due(x.claim(0), 7);
        due(x.claim(1), 0);
        due(x.claim(2), 0);
        x.stifle(0, 1);
        due(x.claim(0), 3);
        x.anew();
        x.stifle(0, 3);
        due(x.claim(0), 7);
        x = of(laws(0));
        x.stifle(0, 1);
        due(x.claim(0), 7);
    }

    static void p34() {
        PepperPolicy x = of(TWO);
        due(x.paid(0), 2);
        due(x.paid(1), 3);
        due(x.paid(2), -2);
        due(of(TWO.replace("from 1 to 3", "from 0 to 1")).paid(0), -1);
        due(of(laws(1)).paid(0), 2);
        due(of(laws(2)).paid(0), 1);
        x = of(laws(3));
        x.stifle(0, 0);
        due(x.paid(2), 1);
        due(x.paid(1), -1);
    }

    static void p35() {
        due(of(TWO).claims(), 3);
        due(of(TWO.replace("from 1 to 3", "from 0 to 1")).claims(), 2);
        PepperPolicy x = of(laws(3));
        due(x.claims(), 7);
        x.stifle(0, 0);
        due(x.claims(), 1);
        due(new PepperPolicy().claims(), -2);
    }

    static void p36() {
        PepperPolicy x = of(TWO);
        int[] want = {16, 16, -14, -23, -23, -23};
        for (int m = 0; m < 6; m++) due(x.money(m), want[m]);
        due(x.money(6), -100000);
        due(x.money(-1), -100000);
        x = of(laws(2));
        due(x.money(0), 53 - 2 - 1);
        due(x.money(1), 53 - 2 - 1 - 21);
        due(x.money(4), 53 - 2 - 1 - 21);
    }

    static void p37() {
        due(of(TWO).ruin(), 2);
        due(of(TWO.replace("money 10", "money 24")).ruin(), 3);
        due(of(TWO.replace("money 10", "money 33")).ruin(), -1);
        due(of(HEAD).ruin(), -1);
        due(new PepperPolicy().ruin(), -2);
    }

    static void p38() {
        due(of(TWO).dear(), 0);
        due(of(TWO.replace("sum 30", "sum 10")).dear(), 1);
        due(of(TWO.replace("sum 30", "sum 11")).dear(), 0);
        due(of(TWO.replace("pays 4", "pays 30").replace("pays 2", "pays 9")).dear(), -1);
        due(of(HEAD).dear(), -1);
        due(of(TWO.replace("pays 4", "pays 30").replace("pays 2", "pays 8")).dear(), 1);
        due(new PepperPolicy().dear(), -2);
    }

    static void p39() {
        due(of(TWO).reserve(), 33);
        due(of(TWO.replace("pays 4", "pays 40")).reserve(), 0);
        due(of(HEAD).reserve(), 0);
        String much = "house minutes 3 dust 1 law 2 money 0 odds 0; nose 9 holds 1;";
        due(of(much + "policy 0 from 0 to 2 sum 99 pays 0;".repeat(3)).reserve(), 891);
        due(of(much + "policy 0 from 0 to 2 sum 99 pays 0;".repeat(4)).reserve(), -1);
        due(of(much + "policy 0 from 0 to 2 sum 99 pays 0;".repeat(3) + "policy 0 from 0 to 2 sum 36 pays 0;").reserve(), 999);
        due(of(much + "policy 0 from 0 to 2 sum 99 pays 0;".repeat(3) + "policy 0 from 0 to 2 sum 37 pays 2;").reserve(), -1);
        due(new PepperPolicy().reserve(), -2);
    }

    static void p40() {
        PepperPolicy x = of(TWO);
        due(x.by(0), -23);
        due(x.by(1), 7);
        due(x.by(2), -23);
        due(x.by(3), -23);
        due(x.by(4), -100000);
        due(x.by(-1), -100000);
        due(new PepperPolicy().by(0), -100000);
        x = of(laws(0));
        x.stifle(0, 1);
        due(x.by(3), 53 - 3 - 1 - 1);
        due(x.by(2), 53 - 21 - 1 - 1);
    }

    static void p41() {
        due(of(TWO).law(), 1);
        due(of(HEAD).law(), 0);
        PepperPolicy x = of(laws(0));
        due(x.law(), 0);
        x.stifle(0, 1);
        due(x.law(), 3);
        due(new PepperPolicy().law(), -2);
    }

    static void p42() {
        PepperPolicy x = of(TWO);
        due(x.takes(0), 0);
        due(x.takes(1), 0);
        due(x.takes(2), -2);
        x = of(TWO.replace("sum 30", "sum 11"));
        due(x.takes(0), 0);
        due(of(TWO.replace("sum 30", "sum 10")).takes(0), 1);
        due(of(QUIET).takes(0), -1);
        due(of(TWO.replace("pays 4", "pays 30").replace("pays 2", "pays 8")).takes(0), 1);
        due(of(TWO.replace("pays 4", "pays 30").replace("pays 2", "pays 9")).takes(0), -1);
    }

    static void p43() {
        PepperPolicy x = of(TWO);
        due(x.gains(0), 26);
        due(x.gains(1), 26);
        due(x.gains(2), -2);
        due(of(QUIET).gains(0), 0);
        due(of(TWO.replace("from 1 to 3", "from 4 to 4")).gains(0), 26);
        due(of(TWO.replace("from 1 to 3", "from 4 to 4")).gains(1), 7);
    }

    static void p44() {
        PepperPolicy x = of(TWO);
        due(x.price(0), 24);
        due(x.price(1), 0);
        due(x.price(2), -2);
        due(of(TWO.replace("policy 1 from 0 to 5 sum 9 pays 2 ;", "")).price(0), 30);
        due(of(QUIET + "policy 0 from 0 to 2 sum 9 pays 2;").price(0), 0);
        String same = "policy 0 from 0 to 5 sum 9 pays 2 ;";
        due(of(TWO.substring(0, TWO.indexOf("policy")) + same + same).price(0), 3);
        due(of(TWO.substring(0, TWO.indexOf("policy")) + same + same).price(1), 2);
        due(of(HEAD + "nose 1 holds 4; nose 0 holds 9; policy 1 from 0 to 4 sum 9 pays 0;").price(0), 9);
        due(x.policy(0, 4), 4);
    }

    static void p45() {
        PepperPolicy x = of(TWO);
        due(x.hold(0), 2);
        due(x.hold(1), 3);
        due(x.hold(2), -2);
        due(of(QUIET + "policy 0 from 0 to 2 sum 9 pays 2;").hold(0), 0);
        due(of(CHAIN + "policy 0 from 3 to 9 sum 9 pays 2;").hold(0), 0);
        due(of(CHAIN + "policy 0 from 1 to 9 sum 9 pays 2;").hold(0), 2);
        due(of(CHAIN + "policy 0 from 0 to 9 sum 9 pays 2;").hold(0), 3);
        // 2 4 6: held in 2 he sneezes in 3 and has 2 4 then; else he has 3 5 7 behind 2, and 4 and 5 are held.
        String late = "house minutes 7 dust 2 law 0 money 0 odds 0; nose 1 holds 5; gust 1 at 3; policy 0 from 4 to 5 sum 1 pays 0;";
        due(of(late).hold(0), 1);
        due(of(late).holds(0), 4);
    }

    static void p46() {
        PepperPolicy x = of(TWO);
        due(x.holds(0), 12);
        due(x.holds(1), 56);
        due(x.holds(2), -2);
        due(of(QUIET + "policy 0 from 0 to 2 sum 9 pays 2;").holds(0), 0);
        // In 2 he tickles enough: held there, he sneezes in 3, and tickles enough in 6 again (6, 7 would be held);
        // not held there, in 5 (5, 6, 7).
        String late = "house minutes 8 dust 1 law 0 money 0 odds 0; nose 2 holds 5; policy 0 from 4 to 7 sum 1 pays 0;";
        x = of(late.replace("to 7", "to 6"));
        due(x.hold(0), 2);
        due(x.holds(0), 4 + 64);
        x = of(late);
        due(x.hold(0), 3);
        due(x.holds(0), 4 + 64 + 128);
        x.stifle(0, 0);
        due(x.holds(0), 4 + 64 + 128);
    }

    static void p47() {
        PepperPolicy x = of(TWO);
        due(x.snuff(0), -1);
        due(x.snuff(2), -2);
        due(of(QUIET + "policy 0 from 1 to 2 sum 9 pays 2;").snuff(0), 0);
        due(of(QUIET.replace("net 0 1 ;", "") + "policy 0 from 1 to 2 sum 9 pays 2;").snuff(0), 1);
        // In 0 it makes him sneeze too early; law 2 pays for one more.
        due(of(laws(2)).snuff(0), -1);
        due(of(QUIET.replace("net 0 1 ;", "") + "policy 1 from 2 to 2 sum 9 pays 2;").snuff(0), 2);
        // A sneeze of his own comes back to him by the net: 0 with snuff, the other in 1, he again in 2.
        due(of(QUIET.replace("nose 1 holds 5", "nose 2 holds 7") + "policy 0 from 2 to 2 sum 9 pays 2;").snuff(0), 0);
    }

    static void p48() {
        PepperPolicy x = of(TWO);
        due(x.frauds(0), 0);
        due(x.frauds(2), -2);
        due(of(QUIET + "policy 0 from 1 to 2 sum 9 pays 2;").frauds(0), 6 + 1);
        due(of(QUIET + "policy 1 from 2 to 2 sum 9 pays 2;").frauds(0), 4 + 1);
        x = of(QUIET + "policy 0 from 1 to 1 sum 9 pays 2;");
        due(x.frauds(0), 2);
        x.sniff(0, 1);
        due(x.frauds(0), 0);
    }

    static PepperPolicy asked(String text, int... row) {
        PepperPolicy x = of(text);
        due(x.row(1, 0, row.length), 0);
        for (int i = 0; i < row.length; i++) due(x.write(1, i, row[i]), 0);
        return x;
    }

    static void refusals(java.util.function.BiFunction<PepperPolicy, Integer, Integer> f) {
        due(f.apply(asked(QUIET, 0, 1), 4), -2);
        due(f.apply(asked(QUIET, 0, 1), -1), -2);
        due(f.apply(asked(QUIET, 0, 1), 2), -6);
        due(f.apply(asked(QUIET, 0, 1, 0), 1), -2);
        due(f.apply(asked(QUIET, 2, 1), 1), -2);
        due(f.apply(asked(QUIET, -1, 1), 1), -2);
        due(f.apply(asked(QUIET, 0, 3), 1), -2);
        due(f.apply(asked(QUIET, 0, -1), 1), -2);
        due(f.apply(new PepperPolicy(), 1), -2);
        PepperPolicy x = of(QUIET);
        x.row(1, 3, 2);
        x.write(1, 0, 1L << 32);
        due(f.apply(x, 1), -2);
    }

    static void p49() {
        due(asked(QUIET, 0, 1).which(1), 8);
        due(asked(QUIET).which(1), 27);
        due(asked(QUIET, 0, 0).which(1), 6);
        due(asked(QUIET, 0, 0, 1, 1).which(1), 6);
        due(asked(QUIET, 1, 0).which(1), 0);
        due(asked(QUIET, 0, 1, 0, 1).which(1), 8);
        PepperPolicy x = asked(QUIET, 0, 1);
        x.sniff(0, 1);
        due(x.which(1), 27);
        refusals(PepperPolicy::which);
    }

    static void p50() {
        due(asked(QUIET, 0, 1).when(1), 3);
        due(asked(QUIET, 0, 0).when(1), 1);
        due(asked(QUIET, 0, 2).when(1), 7);
        due(asked(QUIET, 1, 0).when(1), 0);
        due(asked(QUIET).when(1), 7);
        refusals(PepperPolicy::when);
    }

    static void p51() {
        due(asked(QUIET, 0, 1).gust(1), 3);
        due(asked(QUIET, 0, 0).gust(1), 4);
        due(asked(QUIET).gust(1), 1);
        due(asked(QUIET.replace("net 0 1 ;", ""), 1, 1).gust(1), -1);
        due(asked(QUIET.replace("net 0 1 ;", "gust 2 at 0;"), 0, 1).gust(1), 1);
        refusals(PepperPolicy::gust);
    }

    static void p52() {
        due(asked(QUIET).ask(1), 1);
        due(asked(QUIET, 0, 1).ask(1), -1);
        due(asked(QUIET, 1, 0).ask(1), -1);
        due(asked(QUIET.replace("net 0 1", "nose 1 holds 5 ")).ask(1), 0);
        refusals(PepperPolicy::ask);
    }

    static void p53() {
        due(asked(QUIET).leaves(1), 14);
        due(asked(QUIET, 0, 1).leaves(1), 8);
        due(asked(QUIET, 1, 0).leaves(1), 0);
        refusals(PepperPolicy::leaves);
    }

    static void p54() {
        PepperPolicy x = of(TWO);
        due(x.rests(0, 1), 8);
        due(x.rests(1, 0), 8);
        due(x.rests(0, 0), -2);
        due(x.rests(0, 2), -2);
        due(x.rests(-1, 0), -2);
        // Three minutes cost nothing: who never sneezes may do either.
        due(of(QUIET).rests(0, 1), 15);
        due(of(CHAIN).rests(0, 1), 8 + 2);
        due(of(CHAIN).rests(1, 0), 8 + 4);
        due(of(HEAD + "nose 0 holds 9; nose 0 holds 9;").rests(0, 1), 1);
        due(of(HEAD + "nose 1 holds 2; nose 0 holds 9;").rests(0, 1), 2);
        due(of(HEAD + "nose 1 holds 2; nose 0 holds 9;").rests(1, 0), 4);
    }

    static void p55() {
        PepperPolicy x = of(TWO);
        due(x.loses(0, 1, 0, 0), 6);
        due(x.loses(0, 1, 1, 0), 1);
        due(x.loses(0, 1, 1, 1), 1);
        due(x.loses(1, 0, 0, 0), 3);
        due(x.loses(1, 0, 0, 1), 3);
        due(of(CHAIN).loses(1, 0, 0, 1), 0);
        due(of(CHAIN).loses(1, 0, 0, 0), 6);
        due(of(CHAIN).loses(1, 0, 1, 0), 0);
        due(of(HEAD.replace("5", "8") + "nose 1 holds 2; nose 0 holds 9;").loses(1, 0, 1, 0), 2);
        due(x.loses(0, 0, 0, 0), -2);
        due(x.loses(0, 2, 0, 0), -2);
        due(x.loses(2, 0, 0, 0), -2);
        due(x.loses(0, 1, 2, 0), -2);
        due(x.loses(0, 1, 0, -1), -2);
    }

    static void p56() {
        PepperPolicy x = of(CHAIN);
        due(x.cut(0), 3);
        due(x.cut(1), 5);
        due(x.cut(2), -2);
        due(x.cut(-1), -2);
        due(x.all(), 6);
        due(of(TWO).cut(0), 3);
    }

    static void p57() {
        due(of(CHAIN).cuts(), 0);
        due(of(TWO).cuts(), -1);
        due(of(HEAD).cuts(), -1);
        due(of(CHAIN.replace("net 0 1 ; net 1 2", "net 1 2 ; net 0 1")).cuts(), 1);
        due(of(CHAIN.replace("net 0 1 ; net 1 2", "net 0 1 ; net 0 2")).cuts(), 0);
        due(new PepperPolicy().cuts(), -2);
    }

    static void fraction(long above, long below, long wantAbove, long wantBelow) {
        due(above, wantAbove);
        due(below, wantBelow);
    }

    static void p58() {
        PepperPolicy x = of(TWO);
        fraction(x.chance(0, 0, 0), x.chance(0, 0, 1), 3, 10);
        fraction(x.chance(1, 0, 0), x.chance(1, 0, 1), 0, 1);
        fraction(x.chance(0, 1, 0), x.chance(0, 1, 1), 51, 100);
        fraction(x.chance(0, 5, 0), x.chance(0, 5, 1), 1, 1);
        due(x.chance(0, 6, 0), -2);
        due(x.chance(2, 0, 0), -2);
        due(x.chance(0, -1, 0), -2);
        due(x.chance(0, 0, 2), -2);
        due(x.chance(0, 0, -1), -2);
        x = of("house minutes 30 dust 0 law 0 money 0 odds 1; nose 1 holds 24;");
        fraction(x.chance(0, 7, 0), x.chance(0, 7, 1), 1, 100000000);
        due(x.chance(0, 8, 0), -2);
        x = of(PUFF.replace("odds 5", "odds 0"));
        fraction(x.chance(0, 0, 0), x.chance(0, 0, 1), 0, 1);
        x = of(PUFF.replace("odds 5", "odds 10"));
        fraction(x.chance(0, 0, 0), x.chance(0, 0, 1), 1, 1);
    }

    static void p59() {
        PepperPolicy x = of(TWO);
        fraction(x.fair(0, 0, 0), x.fair(0, 0, 1), 0, 1);
        fraction(x.fair(0, 1, 0), x.fair(0, 1, 1), 9, 1);
        fraction(x.fair(1, 2, 0), x.fair(1, 2, 1), 5913, 1000);
        due(x.fair(2, 0, 0), -2);
        due(x.fair(0, 6, 0), -2);
        due(x.fair(0, 0, 2), -2);
        // By law 2 the sneezes in these alone: one in 0 .. 0, two in 0 .. 1.
        x = of(laws(2).replace("from 1 to 4", "from 0 to 4"));
        fraction(x.fair(0, 0, 0), x.fair(0, 0, 1), 7, 1);
        fraction(x.fair(0, 1, 0), x.fair(0, 1, 1), 14, 1);
    }

    static void p60() {
        PepperPolicy x = of(TWO);
        fraction(x.risk(0, 0), x.risk(0, 1), 0, 1);
        fraction(x.risk(1, 0), x.risk(1, 1), 3, 10);
        fraction(x.risk(2, 0), x.risk(2, 1), 1, 1);
        due(x.risk(6, 0), -2);
        due(x.risk(-1, 0), -2);
        due(x.risk(0, 2), -2);
        due(new PepperPolicy().risk(0, 0), -2);
        x = of(PUFF);
        fraction(x.risk(0, 0), x.risk(0, 1), 1, 2);
    }

    static void p61() {
        PepperPolicy x = of(TWO);
        due(x.stifle(0, 2), 12);
        due(x.sneezes(0), 8 + 32);
        due(x.sneezes(1), 16);
        due(x.stifle(0, 0), 2);
        due(x.stifle(2, 0), -2);
        due(x.stifle(0, 6), -2);
        due(x.stifle(0, -1), -2);
        for (int i = 2; i < 40; i++) due(x.stifle(0, 0), 2);
        due(x.stifle(0, 3), -5);
        due(x.sniff(0, 3), -5);
        due(x.stifle(2, 0), -2);
        due(x.count(9), 40);
        due(x.undo(), 39);
        due(x.stifle(0, 3), 14);
    }

    static void p62() {
        PepperPolicy x = of(TWO);
        due(x.sniff(1, 0), 1);
        due(x.first(1), 0);
        due(x.sniff(0, 6), -2);
        due(x.sniff(2, 0), -2);
        x = of(HEAD.replace("dust 1", "dust 0") + "nose 0 holds 50;");
        due(x.sniff(0, 1), 0);
        due(x.tickle(0, 4), 40);
        due(x.sniff(0, 1), 0);
        due(x.tickle(0, 4), 40);
        due(x.sniff(0, 3), 1);
        due(x.stifle(0, 3), 80);
        due(x.sneezes(0), 16);
    }

    static void p63() {
        PepperPolicy x = of(TWO);
        due(x.undo(), -5);
        x.stifle(0, 2);
        x.sniff(0, 0);
        due(x.undo(), 1);
        due(x.sneezes(0), 8 + 32);
        due(x.undo(), 0);
        due(x.sneezes(0), 4 + 16);
        due(x.undo(), -5);
        x.sniff(0, 0);
        x.sniff(0, 0);
        due(x.undo(), 1);
        due(x.first(0), 0);
        due(new PepperPolicy().undo(), -2);
    }

    static void p64() {
        PepperPolicy x = of(TWO);
        due(x.anew(), 0);
        x.stifle(0, 2);
        x.sniff(0, 0);
        due(x.anew(), 2);
        due(x.sneezes(0), 4 + 16);
        due(x.anew(), 0);
        due(new PepperPolicy().anew(), -2);
    }

    static void p65() {
        PepperPolicy x = of(TWO);
        due(x.drawn(0, 0), 1);
        due(x.drawn(0, 1), 5);
        due(x.drawn(0, 2), 2);
        due(x.drawn(2000000000, 0), 4 + 32);
        due(x.drawn(2000000001, 0), -2);
        due(x.drawn(-1, 0), -2);
        due(x.drawn(0, 3), -2);
        due(x.drawn(0, -1), -2);
        due(of(PUFF).drawn(0, 2), 0);
        due(of(PUFF).drawn(1, 2), -1);
        due(of(PUFF).drawn(5, 0), 0);
        due(new PepperPolicy().drawn(0, 0), -2);
    }

    static void p66() {
        PepperPolicy x = of(PUFF);
        due(x.luck(0, 1, 0), 1);
        due(x.luck(1, 4, 0), 0);
        due(x.luck(0, 8, 0), 2);
        due(x.luck(2000000000, 3, 0), 3);
        due(x.luck(0, 0, 0), -2);
        due(x.luck(0, 21, 0), -2);
        due(x.luck(0, 1, 1), -2);
        due(x.luck(-1, 1, 0), -2);
        due(x.luck(2000000001, 1, 0), -2);
        due(of(PUFF.replace("odds 5", "odds 10")).luck(0, 20, 0), 20);
    }

    static void p67() {
        PepperPolicy x = of(TWO);
        x.image(0);
        due(x.rate(0, 99), 4);
        due(x.rate(0, 0), 99);
        due(x.policy(0, 4), 0);
        due(x.money(0), 12);
        due(x.rate(0, 100), -2);
        due(x.rate(0, -1), -2);
        due(x.rate(2, 1), -2);
        x.stifle(0, 0);
        due(x.rate(0, 5), -5);
        due(x.rate(0, 100), -2);
        x.undo();
        due(x.rate(0, 5), 0);
        x.back(0);
        due(x.policy(0, 4), 4);
    }

    static void p68() {
        PepperPolicy x = of(TWO);
        int[] want = {6, 1, 0, 10, 3, 2, 1, 1, 2, 0, 7, 0, 0};
        for (int i = 0; i < want.length; i++) due(x.count(i), want[i]);
        due(x.count(13), -1);
        due(x.count(-1), -1);
        x.stifle(0, 0);
        x.feed(0, 0, 0, 0, 0);
        x.row(3, 0, 0);
        x.row(0, 3, 60);
        due(x.count(9), 1);
        due(x.count(11), 20);
        due(x.count(12), 2);
    }

    static void p69() {
        PepperPolicy x = of(TWO);
        due(x.image(3), -2);
        due(x.image(-1), -2);
        x.stifle(0, 2);
        due(x.image(2), 0);
        x.undo();
        due(x.back(2), 0);
        due(x.count(9), 1);
        due(x.undo(), 0);
        due(x.image(2), 0);
        x.stifle(0, 2);
        x.back(2);
        due(x.count(9), 0);
    }

    static void p70() {
        PepperPolicy x = of(TWO);
        due(x.back(0), -6);
        due(x.back(3), -2);
        due(x.back(-1), -2);
        x.image(0);
        put(x, CHAIN);
        x.house();
        x.image(1);
        due(x.back(0), 0);
        due(x.sneezes(0), 4 + 16);
        due(x.count(5), 2);
        due(x.back(1), 0);
        due(x.count(5), 3);
        due(x.who(2), 7);
        x.stifle(1, 1);
        due(x.back(1), 0);
        due(x.who(2), 7);
        x = new PepperPolicy();
        due(x.image(0), 0);
        put(x, TWO);
        x.house();
        due(x.back(0), 0);
        due(x.all(), -2);
    }

    static void p71() {
        PepperPolicy x = new PepperPolicy();
        due(x.row(0, 0, 60), 0);
        due(x.row(0, 0, 61), -2);
        due(x.row(0, 4, 1), -2);
        due(x.row(0, -1, 1), -2);
        due(x.row(4, 0, 1), -2);
        due(x.row(-1, 0, 1), -2);
        due(x.row(4, 0, -1), -2);
        due(x.row(0, 0, -1), -3);
        due(x.write(0, 59, 1), 0);
        due(x.row(1, 0, -1), -3);
        due(x.write(1, 0, 0), -6);
        x = asked(QUIET, 1, 1);
        x.row(1, 0, 2);
        due(x.which(1), 6);
        x.row(1, 0, 0);
        due(x.which(1), 27);
    }

    static void p72() {
        PepperPolicy x = of(QUIET);
        due(x.write(4, 0, 0), -2);
        due(x.write(-1, 0, 0), -2);
        due(x.write(1, 0, 0), -6);
        long[] cuts = {256, 65536, 1L << 32, 0};
        for (int width = 0; width < 4; width++) {
            x.row(1, width, 2);
            due(x.write(1, 0, cuts[width]), 0);
            due(x.write(1, 1, 1 - cuts[width]), 0);
            due(x.which(1), 8);
        }
        due(x.write(1, 2, 0), -7);
        due(x.write(1, -1, 0), -7);
    }

    static void p73() {
        PepperPolicy x = asked(QUIET, 0, 2, 1, 0);
        due(x.paste(1, 0, 1, 1, 3), 0);
        due(x.which(1), -2);
        x = asked(QUIET, 2, 0, 1, 1);
        due(x.paste(1, 1, 1, 0, 3), 0);
        due(x.which(1), 0);
        x = asked(QUIET, 0, 1, 0, 0);
        due(x.which(1), 0);
        x.row(2, 0, 2);
        due(x.paste(1, 0, 2, 0, 2), 0);
        due(x.which(2), 8);
        due(x.paste(1, 2, 2, 0, 2), 0);
        due(x.which(2), 6);
        due(x.which(1), 0);
        due(x.paste(1, 0, 4, 0, 0), -2);
        due(x.paste(-1, 0, 1, 0, 0), -2);
        due(x.paste(1, 0, 3, 0, 0), -6);
        due(x.paste(3, 0, 1, 0, 0), -6);
        x.row(3, 1, 4);
        due(x.paste(1, 0, 3, 0, 1), -8);
        due(x.paste(1, 9, 3, 0, -1), -8);
        due(x.paste(1, 4, 2, 2, 0), 0);
        due(x.paste(1, 5, 2, 0, 0), -7);
        due(x.paste(1, 0, 2, 3, 0), -7);
        due(x.paste(1, 0, 2, 0, 3), -7);
        due(x.paste(1, 3, 2, 0, 2), -7);
        due(x.paste(1, -1, 2, 0, 1), -7);
        due(x.paste(1, 0, 2, -1, 1), -7);
        due(x.paste(1, 0, 2, 0, -1), -7);
        due(x.paste(1, 1, 2, 1, Integer.MAX_VALUE), -7);
        due(x.paste(1, Integer.MAX_VALUE, 2, 0, Integer.MAX_VALUE), -7);
        due(x.which(2), 6);
    }
}
