/** The boundary cases that the Terms name, a test for each sentence. */
public final class TermsBoundsTest extends Sentences {
    private static final String HEAD = "house minutes 5 dust 1 law 0 money 50 odds 0;";
    private static final String TWO = HEAD + "nose 1 holds 1;nose 1 holds 1;";
    private static final String FULL = "house minutes 30 dust 9 law 3 money 999 odds 10;" + "nose 9 holds 99;".repeat(6)
        + "gust 9 at 29;".repeat(5) + "net 0 1;".repeat(7) + "net 4 5;" + "policy 5 from 29 to 29 sum 99 pays 99;".repeat(6);

    public static void main(String[] args) throws Exception {
        run(TermsBoundsTest.class, "use", "t1", "t2", "t3", "t4", "t5", "t6", "t7", "t8", "t9", "block");
    }

    // ---- what it is ----

    @Says("An object is used for at most 512 calls after it has been made")
    static void use_allOf512Calls() {
        PepperPolicy x = new PepperPolicy();
        int calls = 0;
        String text = HEAD + "nose 1 holds 3;";
        for (int i = 0; i < text.length(); i += 20) {
            int[] n = new int[5];
            for (int j = 0; j < 20; j++) n[j / 4] = n[j / 4] << 8 | (i + j < text.length() ? text.charAt(i + j) : 32);
            due(x.feed(n[0], n[1], n[2], n[3], n[4]), i + 20);
            calls++;
        }
        due(x.house(), 2);
        calls++;
        while (calls < 508) {
            due(x.stifle(0, 2), 3);
            due(x.undo(), 0);
            calls += 2;
        }
        for (; calls < 511; calls++) due(x.sneezes(0), 4);
        due(x.stifle(0, 2), 3);
    }

    // ---- I ----

    @Says("{LINE ;}")
    static void t1_noLineOneLineAndALineWithoutItsSign() {
        lines("", 0);
        lines(HEAD, 1);
        lines(HEAD + "nose 0 holds 1;", 2);
        faultOf(HEAD.substring(0, HEAD.length() - 1), 1, HEAD.length() - 1);
        faultOf(HEAD + "nose 0 holds 1", 1, HEAD.length() + 14);
        faultOf(HEAD + ";", 1, HEAD.length());
        faultOf(HEAD + "nose 0 holds 1;;", 1, HEAD.length() + 15);
        faultOf(";", 1, 0);
    }

    @Says("nose N holds N | gust N at N | net P P | policy P from N to N sum N pays N")
    static void t1_eachLineWordForWord() {
        String[] texts = {HEAD, "nose 1 holds 1;", "gust 1 at 0;", "net 0 1;", "policy 0 from 0 to 0 sum 1 pays 0;"};
        for (int k = 0; k < texts.length; k++) {
            String ahead = k == 0 ? "" : k == 1 ? HEAD : TWO;
            String[] tokens = texts[k].replace(";", " ;").split(" ");
            lines(ahead + String.join(" ", tokens), k == 0 ? 1 : k == 1 ? 2 : 4);
            StringBuilder part = new StringBuilder(ahead);
            for (int i = 0; i < tokens.length; i++) {
                boolean number = Character.isDigit(tokens[i].charAt(0));
                boolean word = Character.isLetter(tokens[i].charAt(0));
                if (i > 0) {
                    // At each place the line breaks off, or has another kind of token, or another word.
                    faultOf(part + "", 1, part.length());
                    faultOf(part + (number ? "x 1" : "1"), 1, part.length());
                    faultOf(part + (word || number ? ";" : "x"), 1, part.length());
                }
                if (word && (i > 0 || k == 0)) {
                    faultOf(part + tokens[i] + "s 1", 1, part.length());
                    faultOf(part + tokens[i].substring(1) + " 1", 1, part.length());
                    faultOf(part + tokens[i].substring(0, 1) + " 1", 1, part.length());
                }
                part.append(tokens[i]).append(' ');
            }
        }
    }

    @Says("house is the first LINE and no other")
    static void t1_houseFirstAndNoOther() {
        faultOf("nose 1 holds 1;" + HEAD, 1, 0);
        faultOf("policy 0 from 0 to 0 sum 1 pays 1;", 1, 0);
        faultOf(HEAD + HEAD, 1, HEAD.length());
        faultOf(HEAD + "nose 1 holds 1;house", 1, HEAD.length() + 15);
    }

    @Says("minutes 1 .. 30")
    static void t1_minutes() {
        bounds("house minutes # dust 0 law 0 money 0 odds 0;", 1, 30, x -> x.count(0));
    }

    @Says("dust 0 .. 9")
    static void t1_dust() {
        bounds("house minutes 1 dust # law 0 money 0 odds 0;", 0, 9, x -> x.count(1));
    }

    @Says("law 0 .. 3")
    static void t1_law() {
        bounds("house minutes 1 dust 0 law # money 0 odds 0;", 0, 3, x -> x.count(2));
    }

    @Says("money 0 .. 999")
    static void t1_money() {
        bounds("house minutes 1 dust 0 law 0 money # odds 0;", 0, 999, x -> x.count(3));
        due(of("house minutes 1 dust 0 law 0 money 999 odds 0;").money(0), 999);
    }

    @Says("odds 0 .. 10")
    static void t1_odds() {
        bounds("house minutes 1 dust 0 law 0 money 0 odds #;", 0, 10, x -> x.count(4));
    }

    @Says("MINUTES 0 .. minutes less 1.")
    static void t1_minutesOfTheHouse() {
        only(1, -2, of("house minutes 1 dust 0 law 0 money 0 odds 0;")::dust);
        only(29, -2, of("house minutes 29 dust 0 law 0 money 0 odds 0;")::dust);
        only(30, -2, of("house minutes 30 dust 0 law 0 money 0 odds 0;")::dust);
    }

    @Says("how keen, 0 .. 9")
    static void t1_keen() {
        bounds(HEAD + "nose # holds 1;", 0, 9, x -> x.nose(0, 0));
    }

    @Says("holds 1 .. 99")
    static void t1_holds() {
        bounds(HEAD + "nose 0 holds #;", 1, 99, x -> x.nose(0, 1));
    }

    @Says("gust: 1 .. 9")
    static void t1_gust() {
        bounds(HEAD + "gust # at 4;", 1, 9, x -> x.dust(4) - 1);
    }

    @Says("at 0 .. 29")
    static void t1_gustAt() {
        bounds("house minutes 30 dust 0 law 0 money 0 odds 0;gust 1 at #;", 0, 29, x -> {
            int at = 0;
            while (at < 30 && x.dust(at) == 0) at++;
            return at;
        });
        lines(HEAD + "gust 9 at 29;", 2);
        faultOf(HEAD + "gust 9 at 30;", 2, HEAD.length() + 10);
        due(of(HEAD + "gust 9 at 5;").dust(4), 1);
    }

    @Says("net: two unlike PERSONS told ahead")
    static void t1_net() {
        int at = TWO.length();
        lines(TWO + "net 0 1;", 4);
        lines(TWO + "net 1 0;", 4);
        lines(TWO + "net 00 01;", 4);
        faultOf(TWO + "net 0 0;", 2, at + 6);
        faultOf(TWO + "net 1 1;", 2, at + 6);
        faultOf(TWO + "net 0 2;", 2, at + 6);
        faultOf(TWO + "net 2 0;", 2, at + 4);
        faultOf(TWO + "net 2 2;", 2, at + 4);
        faultOf(TWO + "net 0 4294967297;", 2, at + 6);
        faultOf(HEAD + "net 0 1;nose 1 holds 1;nose 1 holds 1;", 2, HEAD.length() + 4);
        faultOf(HEAD + "nose 1 holds 1;net 0 1;nose 1 holds 1;", 2, HEAD.length() + 21);
        lines(HEAD + "nose 1 holds 1;".repeat(6) + "net 5 4;", 8);
        faultOf(HEAD + "nose 1 holds 1;".repeat(6) + "net 5 6;", 2, HEAD.length() + 96);
        faultOf(HEAD + "nose 1 holds 1;".repeat(6) + "net 6 5;", 2, HEAD.length() + 94);
    }

    @Says("policy: a PERSON told ahead")
    static void t1_policyPerson() {
        String rest = " from 0 to 0 sum 1 pays 0;";
        bounds(TWO + "policy #" + rest, 0, 1, x -> x.policy(0, 0));
        bounds(HEAD + "nose 1 holds 1;".repeat(6) + "policy #" + rest, 0, 5, x -> x.policy(0, 0));
        faultOf(HEAD + "policy 0" + rest + "nose 1 holds 1;", 2, HEAD.length() + 7);
        faultOf(HEAD + "nose 1 holds 1;policy 1" + rest + "nose 1 holds 1;", 2, HEAD.length() + 22);
    }

    @Says("from 0 .. 29, to from .. 29")
    static void t1_policyFromAndTo() {
        bounds(TWO + "policy 1 from # to 29 sum 1 pays 0;", 0, 29, x -> x.policy(0, 1));
        bounds(TWO + "policy 1 from 0 to # sum 1 pays 0;", 0, 29, x -> x.policy(0, 2));
        bounds(TWO + "policy 1 from 9 to # sum 1 pays 0;", 9, 29, x -> x.policy(0, 2));
        bounds(TWO + "policy 1 from 28 to # sum 1 pays 0;", 28, 29, x -> x.policy(0, 2));
        lines(TWO + "policy 1 from 29 to 29 sum 1 pays 0;", 4);
        faultOf(TWO + "policy 1 from 29 to 28 sum 1 pays 0;", 2, TWO.length() + 20);
        // Beyond its bounds from is the first fault, whatever to is.
        faultOf(TWO + "policy 1 from 30 to 29 sum 1 pays 0;", 2, TWO.length() + 14);
    }

    @Says("sum 1 .. 99, pays 0 .. 99")
    static void t1_policySumAndPays() {
        bounds(TWO + "policy 1 from 0 to 0 sum # pays 0;", 1, 99, x -> x.policy(0, 3));
        bounds(TWO + "policy 1 from 0 to 0 sum 1 pays #;", 0, 99, x -> x.policy(0, 4));
    }

    @Says("PERSONS 0 .. 5, GUSTS 0 .. 4, NETS 0 .. 7, POLICIES 0 .. 5 are numbered as they stand.")
    static void t1_allThatAHouseCanHave() {
        PepperPolicy x = of(FULL);
        due(x.count(10), 26);
        due(x.count(5), 6);
        due(x.count(6), 5);
        due(x.count(7), 8);
        due(x.count(8), 6);
        only(6, -2, i -> x.nose(i, 0));
        only(8, -2, x::cut);
        only(6, -2, i -> x.policy(i, 0));
        due(x.dust(29), 54);
        due(x.beside(5), 16);
        PepperPolicy y = of(HEAD + "nose 7 holds 1;gust 1 at 0;nose 8 holds 2;policy 1 from 0 to 1 sum 5 pays 5;net 0 1;nose 9 holds 3;"
            + "policy 0 from 2 to 3 sum 6 pays 6;net 2 1;");
        for (int p = 0; p < 3; p++) due(y.nose(p, 0), 7 + p);
        for (int q = 0; q < 2; q++) due(y.policy(q, 3), 5 + q);
        due(y.beside(1), 5);
    }

    // ---- the block ----

    @Says("TOKENS, blanks (32, 10) aside, the longest")
    static void block_blanksAndTheLongest() {
        lines("\n\n  house\nminutes 5 dust 1law 0money 50odds 0\n;\n", 1);
        faultOf("house minutes 5 dust 1 law 0 money 5\n;", 1, 37);
        faultOf("house\tminutes", 1, 5);
        faultOf("house\rminutes", 1, 5);
        faultOf("house" + (char) 11 + "minutes", 1, 5);
        faultOf("house" + (char) 31 + "minutes", 1, 5);
        faultOf("house" + (char) 160 + "minutes", 1, 5);
        faultOf("house" + (char) 0 + "minutes", 1, 5);
        faultOf((char) 9 + HEAD, 1, 0);
        // The longest: two words, or two numbers, without a blank between them are one.
        faultOf("houseminutes 5", 1, 0);
        faultOf("house minutes5dust1law0money50odds0;nose1holds1holds", 1, 47);
        lines("house minutes5dust1law0money50odds0;nose1holds1;", 2);
        faultOf("house minutes 3 0 dust", 1, 16);
        due(of("house minutes 30dust 1law 0money 0odds 0;").count(0), 30);
    }

    @Says("words (a .. z)")
    static void block_words() {
        faultOf("House", 1, 0);
        faultOf("housE", 1, 0);
        faultOf("house`", 1, 5);
        faultOf("house{", 1, 5);
        faultOf("house@", 1, 5);
        faultOf("h ouse", 1, 0);
        faultOf("hous", 1, 0);
        faultOf("houses", 1, 0);
        faultOf("housez", 1, 0);
        faultOf("housea", 1, 0);
        faultOf("house zminutes", 1, 6);
        faultOf(HEAD + "a", 1, HEAD.length());
        faultOf(HEAD + "z", 1, HEAD.length());
        faultOf(HEAD + "noze 1 holds 1;", 1, HEAD.length());
        faultOf("z".repeat(900), 1, 0);
    }

    @Says("numbers (digits)")
    static void block_numbers() {
        faultOf("house minutes /", 1, 14);
        faultOf("house minutes :", 1, 14);
        faultOf("house minutes 1.5", 1, 15);
        faultOf("house minutes +1", 1, 14);
        faultOf("house minutes 1/", 1, 15);
        faultOf("house minutes 1:", 1, 15);
        due(of("house minutes 10 dust 9 law 3 money 876 odds 5;").count(3), 876);
        due(of("house minutes 10 dust 9 law 3 money 123 odds 4;").count(3), 123);
        faultOf("9".repeat(900), 1, 0);
        faultOf("house minutes " + "9".repeat(886), 2, 14);
        String zeros = "house minutes " + "0".repeat(850) + "7 dust 0 law 0 money 0 odds 0;";
        due(of(zeros).count(0), 7);
    }

    @Says("the sign ;")
    static void block_theSign() {
        lines(HEAD.replace(";", "  \n;  "), 1);
        faultOf(HEAD.replace(";", ","), 1, HEAD.length() - 1);
        faultOf(HEAD.replace(";", "<"), 1, HEAD.length() - 1);
        faultOf(HEAD.replace(";", ":"), 1, HEAD.length() - 1);
        faultOf(HEAD.replace(";", ""), 1, HEAD.length() - 1);
    }

    @Says("FAULTS, the first by its place (a TOKEN's first byte; the end's)")
    static void block_theFirstByItsPlace() {
        faultOf("house minutes 31 dust 10 law 4 ?", 2, 14);
        faultOf("house minutes ? 31", 1, 14);
        faultOf(" \n house minutes 5 dust 10 house", 2, 24);
        faultOf(HEAD + "nose 10 house", 2, HEAD.length() + 5);
        faultOf("house minutes 5 dust", 1, 20);
        faultOf("house minutes 5 dust   ", 1, 23);
        faultOf("house minutes 5 dust \n\n", 1, 23);
        faultOf("h", 1, 0);
        faultOf("house" + " ".repeat(895), 1, 900);
        faultOf(HEAD + " ".repeat(899 - HEAD.length()) + "x", 1, 899);
        faultOf(HEAD + " ".repeat(896 - HEAD.length()) + "nose", 1, 900);
    }

    @Says("of one place the least")
    static void block_ofOnePlaceTheLeast() {
        // A number where none can stand is out of no bounds, and another word is no 7th nose.
        faultOf("house 99999", 1, 6);
        faultOf(HEAD + "99999", 1, HEAD.length());
        faultOf(HEAD + "nose 1 holds 1;".repeat(6) + "noses", 1, HEAD.length() + 90);
        faultOf(HEAD + "nose 1 holds 1;".repeat(6) + "house", 1, HEAD.length() + 90);
    }

    @Says("1 a TOKEN that is none, or can't stand there (house behind the first LINE, another word ahead of it).")
    static void block_fault1() {
        for (int b : new int[] {0, 1, 9, 11, 31, 33, 47, 58, 60, 64, 65, 90, 91, 96, 123, 127, 128, 160, 200, 255}) {
            faultOf("" + (char) b, 1, 0);
            faultOf(HEAD + (char) b, 1, HEAD.length());
        }
        faultOf("nose", 1, 0);
        faultOf("gust", 1, 0);
        faultOf("net", 1, 0);
        faultOf("policy", 1, 0);
        faultOf("minutes", 1, 0);
        faultOf("5", 1, 0);
        faultOf(HEAD + "house", 1, HEAD.length());
        faultOf(HEAD + "minutes", 1, HEAD.length());
        faultOf(HEAD + "holds", 1, HEAD.length());
        faultOf(HEAD + "at", 1, HEAD.length());
    }

    @Says("2 a number out of its bounds, not as said.")
    static void block_fault2() {
        faultOf("house minutes 0", 2, 14);
        faultOf("house minutes 31x", 2, 14);
        faultOf(TWO + "net 1 01", 2, TWO.length() + 6);
        faultOf(TWO + "policy 0 from 2 to 1", 2, TWO.length() + 19);
    }

    @Says("3 a 7th nose, 6th gust, 9th net, 7th policy, at its word.")
    static void block_fault3() {
        String[] texts = {"nose 1 holds 1;", "gust 1 at 0;", "net 0 1;", "policy 0 from 0 to 0 sum 1 pays 0;"};
        String[] words = {"nose", "gust", "net", "policy"};
        int[] most = {6, 5, 8, 6};
        for (int k = 0; k < 4; k++) {
            String ahead = (k == 0 ? HEAD : TWO) + texts[k].repeat(most[k]);
            lines(ahead, (k == 0 ? 1 : 3) + most[k]);
            due(of(ahead).count(5 + k), most[k]);
            faultOf(ahead + words[k], 3, ahead.length());
            faultOf(ahead + "  " + words[k] + " 99 ?", 3, ahead.length() + 2);
            faultOf(ahead + texts[k], 3, ahead.length());
        }
        // Each kind by itself: a full house has them all, and takes none of any kind.
        lines(FULL, 26);
        for (String word : words) faultOf(FULL + word, 3, FULL.length());
    }

    @Says("SLOTS 0 .. 3 have rows of numbers of 1, 2, 4 or 8 bytes (WIDTH 0 .. 3), at most 60, or nothing.")
    static void block_slots() {
        PepperPolicy x = of(HEAD + "nose 1 holds 1;");
        only(4, -2, i -> x.row(i, 0, 60));
        only(4, -2, i -> x.row(0, i, 60));
        only(61, -2, i -> i < 0 ? -2 : x.row(0, 3, i));
        PepperPolicy y = of(HEAD + "nose 1 holds 1;");
        for (int s = 0; s < 4; s++) due(y.write(s, 0, 0), -6);
        due(y.row(2, 1, 0), 0);
        due(y.write(2, 0, 0), -7);
        for (int s = 0; s < 4; s++) if (s != 2) due(y.write(s, 0, 0), -6);
    }

    @Says("-2 is asked ahead of -5, -6.")
    static void block_order() {
        PepperPolicy x = of(HEAD + "nose 1 holds 9;policy 0 from 0 to 1 sum 9 pays 9;");
        for (int i = 0; i < 40; i++) due(x.stifle(0, 4), 5);
        due(x.stifle(0, 0), -5);
        due(x.stifle(1, 0), -2);
        due(x.stifle(0, 5), -2);
        due(x.sniff(0, 0), -5);
        due(x.sniff(1, 0), -2);
        due(x.sniff(0, -1), -2);
        due(x.rate(0, 0), -5);
        due(x.rate(1, 0), -2);
        due(x.rate(0, 100), -2);
        due(x.rate(0, -1), -2);
        for (int s : new int[] {-1, 4}) {
            due(x.which(s), -2);
            due(x.when(s), -2);
            due(x.gust(s), -2);
            due(x.ask(s), -2);
            due(x.leaves(s), -2);
            due(x.write(s, 0, 0), -2);
            due(x.paste(s, 0, 1, 0, 0), -2);
            due(x.paste(1, 0, s, 0, 0), -2);
        }
        due(x.which(1), -6);
        due(x.back(0), -6);
        due(x.back(3), -2);
        due(x.back(-1), -2);
        PepperPolicy none = new PepperPolicy();
        due(none.undo(), -2);
        due(none.which(0), -2);
        due(none.when(0), -2);
        due(none.gust(0), -2);
        due(none.ask(0), -2);
        due(none.leaves(0), -2);
        due(none.rate(0, 0), -2);
        due(none.stifle(0, 0), -2);
        due(none.sniff(0, 0), -2);
    }

    // ---- II ----

    @Says("as told, and all gusts at it (and 3 for a PUFF)")
    static void t2_dust() {
        PepperPolicy x = of(FULL);
        due(x.dust(28), 9);
        due(x.dust(29), 54);
        // Keen 1 and dust 9: 12 by a puff.
        String text = "house minutes 1 dust 9 law 0 money 0 odds 10;nose 1 holds ";
        fraction(of(text + "12;").chance(0, 0, 0), of(text + "12;").chance(0, 0, 1), 1, 1);
        fraction(of(text + "13;").chance(0, 0, 0), of(text + "13;").chance(0, 0, 1), 0, 1);
        due(of(text + "12;").drawn(0, 1), 1);
        due(of(text + "13;").drawn(0, 1), 0);
        due(of(text + "12;").all(), 0);
    }

    @Says("each PERSON's TICKLE (0 at first) is more by how keen he is, times DUST")
    static void t2_keenTimesDust() {
        PepperPolicy x = of("house minutes 30 dust 9 law 0 money 0 odds 0;nose 0 holds 1;nose 1 holds 99;nose 9 holds 99;");
        due(x.tickle(0, 0), 0);
        due(x.tickle(0, 29), 0);
        due(x.tickle(1, 0), 9);
        due(x.tickle(1, 9), 90);
        due(x.tickle(2, 0), 81);
        due(x.tickle(2, 1), 0);
        due(of("house minutes 2 dust 0 law 0 money 0 odds 0;nose 9 holds 1;").tickle(0, 1), 0);
        due(of("house minutes 1 dust 9 law 0 money 0 odds 0;nose 9 holds 99;" + "gust 9 at 0;".repeat(5)).first(0), 0);
    }

    @Says("by 5 for each NET (told twice: twice) by which one is beside him who sneezed in the MINUTE ahead")
    static void t2_nets() {
        String text = "house minutes 3 dust 0 law 0 money 0 odds 0;nose 1 holds 1;nose 0 holds 99;gust 1 at 1;";
        PepperPolicy x = of(text + "net 0 1;");
        due(x.tickle(1, 0), 0);
        due(x.tickle(1, 1), 0);
        due(x.tickle(1, 2), 5);
        due(x.tickle(0, 2), 0);
        due(of(text).tickle(1, 2), 0);
        due(of(text + "net 1 0;net 0 1;").tickle(1, 2), 10);
        due(of(text + "net 1 0;".repeat(8)).tickle(1, 2), 40);
        // Who sneezes in the last minute tickles nobody, and nothing is ahead of minute 0.
        due(of(text.replace("at 1", "at 2") + "net 0 1;").tickle(1, 2), 0);
        due(of(text.replace("at 1", "at 0") + "net 0 1;").tickle(1, 0), 0);
        due(of(text.replace("at 1", "at 0") + "net 0 1;").tickle(1, 2), 5);
    }

    @Says("by 40, if he takes SNUFF in it")
    static void t2_snuff() {
        String text = "house minutes 2 dust 0 law 0 money 0 odds 0;nose 0 holds ";
        due(of(text + "40;").sniff(0, 0), 1);
        PepperPolicy x = of(text + "41;");
        due(x.sniff(0, 0), 0);
        due(x.tickle(0, 0), 40);
        due(x.tickle(0, 1), 40);
        due(x.sniff(0, 0), 0);
        due(x.tickle(0, 0), 40);
        due(x.sniff(0, 1), 1);
    }

    @Says("If it is then as much as he holds, or more, he SNEEZES, and has TICKLE 0 then")
    static void t2_asMuchAsHeHolds() {
        PepperPolicy x = of(HEAD + "nose 1 holds 4;nose 1 holds 5;nose 1 holds 6;nose 3 holds 4;");
        due(x.sneezes(0), 8);
        due(x.sneezes(1), 16);
        due(x.sneezes(2), 0);
        due(x.sneezes(3), 2 + 8);
        due(x.tickle(0, 2), 3);
        due(x.tickle(0, 3), 0);
        due(x.tickle(0, 4), 1);
        due(x.tickle(2, 4), 5);
        due(x.tickle(3, 1), 0);
    }

    @Says("but if he HOLDS BACK in this MINUTE he does not, and keeps it")
    static void t2_holdsBack() {
        PepperPolicy x = of(HEAD + "nose 1 holds 3;");
        due(x.stifle(0, 1), 2);
        due(x.sneezes(0), 4);
        due(x.stifle(0, 2), 3);
        due(x.sneezes(0), 8);
        due(x.tickle(0, 3), 0);
        due(x.stifle(0, 4), 1);
        due(x.stifle(0, 3), 4);
        due(x.sneezes(0), 0);
        due(x.tickle(0, 4), 5);
        // Also by snuff.
        due(x.sniff(0, 3), 0);
        due(x.tickle(0, 3), 44);
    }

    // ---- III ----

    /** He sneezes in one minute, by a gust. */
    private static PepperPolicy onceIn(int minute, int law) {
        return of("house minutes 6 dust 0 law " + law + " money 0 odds 0;nose 1 holds 1;gust 1 at " + minute + ";policy 0 from 2 to 3 sum 9 pays 0;");
    }

    /** He sneezes in each minute. */
    private static PepperPolicy always(int law, int from, int to, int sum, String more) {
        return of("house minutes 30 dust 1 law " + law + " money 999 odds 0;nose 9 holds 1;" + more + "policy 0 from " + from + " to " + to + " sum " + sum + " pays 0;");
    }

    @Says("by the SNEEZES of its PERSON in from .. to")
    static void t3_fromTo() {
        for (int law : new int[] {0, 2, 3}) {
            for (int m = 0; m < 6; m++) due(onceIn(m, law).claim(0), m == 2 || m == 3 ? 9 : 0);
        }
        due(always(0, 29, 29, 9, "").paid(0), 29);
        due(always(0, 0, 0, 9, "").paid(0), 0);
        due(always(2, 29, 29, 9, "").claim(0), 9);
        // Of its person alone.
        due(of(HEAD + "nose 0 holds 1;nose 9 holds 1;policy 0 from 0 to 4 sum 9 pays 0;").claim(0), 0);
        // Minutes that the house has not have no sneeze.
        due(of(HEAD + "nose 9 holds 1;policy 0 from 5 to 29 sum 9 pays 0;").claim(0), 0);
        due(of(HEAD + "nose 9 holds 1;policy 0 from 4 to 29 sum 9 pays 0;").claim(0), 9);
    }

    @Says("by LAW 0: sum, if there is one")
    static void t3_law0() {
        due(onceIn(2, 0).claim(0), 9);
        due(onceIn(4, 0).claim(0), 0);
        due(always(0, 0, 29, 99, "").claim(0), 99);
        PepperPolicy x = always(0, 1, 2, 9, "");
        due(x.stifle(0, 1), 18 - 9);
        due(x.claim(0), 9);
    }

    @Says("1: sum, if there is one in a MINUTE without gusts told")
    static void t3_law1() {
        due(onceIn(2, 1).claim(0), 0);
        due(onceIn(2, 1).paid(0), -1);
        due(always(1, 2, 3, 9, "gust 1 at 2;").claim(0), 9);
        due(always(1, 2, 3, 9, "gust 1 at 2;").paid(0), 3);
        due(always(1, 2, 3, 9, "gust 1 at 2;gust 9 at 3;").claim(0), 0);
        due(always(1, 2, 3, 9, "gust 1 at 1;gust 9 at 4;").paid(0), 2);
        due(always(1, 29, 29, 9, "gust 1 at 29;").claim(0), 0);
        due(always(1, 0, 0, 9, "gust 1 at 0;").claim(0), 0);
        // A puff is no gust told.
        PepperPolicy x = of("house minutes 1 dust 0 law 1 money 0 odds 10;nose 1 holds 3;policy 0 from 0 to 0 sum 9 pays 0;");
        fraction(x.fair(0, 0, 0), x.fair(0, 0, 1), 9, 1);
        due(x.luck(0, 1, 0), 1);
    }

    @Says("2: sum for each, of three at most")
    static void t3_law2() {
        due(onceIn(4, 2).claim(0), 0);
        due(always(2, 1, 1, 9, "").claim(0), 9);
        due(always(2, 1, 2, 9, "").claim(0), 18);
        due(always(2, 1, 3, 9, "").claim(0), 27);
        due(always(2, 1, 4, 9, "").claim(0), 27);
        due(always(2, 0, 29, 99, "").claim(0), 297);
        // Minutes with gusts count, and holding back halves nothing.
        due(always(2, 1, 3, 9, "gust 1 at 2;").claim(0), 27);
        PepperPolicy x = always(2, 1, 2, 9, "");
        due(x.stifle(0, 1), 9);
        due(x.claim(0), 9);
    }

    @Says("3: sum, if there is one, but half of it, cut, if he HOLDS BACK in a MINUTE of from .. to ahead of the first.")
    static void t3_law3() {
        // He sneezes in 3; held in 3, in 4.
        int[] want = {9, 4, 4, 4, 9, 9};
        for (int m = 0; m < 6; m++) {
            PepperPolicy x = of("house minutes 6 dust 1 law 3 money 0 odds 0;nose 1 holds 4;policy 0 from 1 to 5 sum 9 pays 0;");
            due(x.claim(0), 9);
            x.stifle(0, m);
            due(x.claim(0), want[m]);
        }
        for (int sum : new int[] {1, 2, 3, 98, 99}) {
            PepperPolicy x = of("house minutes 6 dust 1 law 3 money 0 odds 0;nose 1 holds 4;policy 0 from 1 to 5 sum " + sum + " pays 0;");
            x.stifle(0, 1);
            due(x.claim(0), sum / 2);
            x.stifle(0, 2);
            due(x.claim(0), sum / 2);
        }
        // None: he holds back in all of them; another one's holding back is none of his.
        PepperPolicy x = of("house minutes 6 dust 1 law 3 money 0 odds 0;nose 1 holds 4;nose 1 holds 4;policy 0 from 3 to 3 sum 9 pays 0;");
        x.stifle(1, 3);
        due(x.claim(0), 9);
        x.stifle(0, 3);
        due(x.claim(0), 0);
        due(x.paid(0), -1);
    }

    @Says("It is paid in the MINUTE of the SNEEZE (the first that counts).")
    static void t3_paidWithTheFirst() {
        for (int law = 0; law < 4; law++) {
            PepperPolicy x = always(law, 2, 9, 9, "gust 1 at 2;");
            int first = law == 1 ? 3 : 2;
            int claim = law == 2 ? 27 : 9;
            due(x.money(first - 1), 999);
            due(x.money(first), 999 - claim);
            due(x.money(29), 999 - claim);
        }
    }

    // ---- IV ----

    @Says("MONEY: at first as told, and what all POLICIES pay")
    static void t4_moneyAtFirst() {
        due(of("house minutes 1 dust 0 law 0 money 0 odds 0;").money(0), 0);
        due(of("house minutes 1 dust 0 law 0 money 999 odds 0;nose 0 holds 1;" + "policy 0 from 29 to 29 sum 1 pays 99;".repeat(6)).money(0), 999 + 594);
    }

    @Says("less all that is paid to the end of a MINUTE")
    static void t4_lessWhatIsPaid() {
        PepperPolicy x = of(HEAD + "nose 1 holds 3;nose 1 holds 5;policy 0 from 0 to 4 sum 20 pays 1;policy 1 from 0 to 4 sum 7 pays 2;policy 0 from 2 to 2 sum 3 pays 0;");
        int[] want = {53, 53, 30, 30, 23};
        for (int m = 0; m < 5; m++) due(x.money(m), want[m]);
    }

    @Says("RUIN: the first MINUTE at whose end it is below 0.")
    static void t4_ruinBelowZero() {
        String text = "house minutes 5 dust 1 law 0 money # odds 0;nose 1 holds 3;nose 1 holds 5;policy 0 from 0 to 4 sum 20 pays 1;policy 1 from 0 to 4 sum 7 pays 2;";
        due(of(text.replace("#", "25")).ruin(), -1);
        due(of(text.replace("#", "24")).ruin(), -1);
        due(of(text.replace("#", "24")).money(4), 0);
        due(of(text.replace("#", "23")).ruin(), 4);
        due(of(text.replace("#", "17")).ruin(), 4);
        due(of(text.replace("#", "17")).money(2), 0);
        due(of(text.replace("#", "16")).ruin(), 2);
        due(of(text.replace("#", "0")).ruin(), 2);
        due(of("house minutes 30 dust 0 law 0 money 0 odds 0;nose 1 holds 1;gust 1 at 29;policy 0 from 0 to 29 sum 1 pays 0;").ruin(), 29);
        due(of("house minutes 1 dust 1 law 0 money 0 odds 0;nose 1 holds 1;policy 0 from 0 to 29 sum 1 pays 0;").ruin(), 0);
    }

    // ---- V ----

    @Says("of greatest CLAIM less pays, if that is above 0, the first of several")
    static void t5_menu() {
        String text = HEAD + "nose 9 holds 1;nose 0 holds 1;";
        due(of(text + "policy 0 from 0 to 4 sum 9 pays 9;").takes(0), -1);
        due(of(text + "policy 0 from 0 to 4 sum 9 pays 10;").takes(0), -1);
        due(of(text + "policy 0 from 0 to 4 sum 9 pays 8;").takes(0), 0);
        due(of(text + "policy 0 from 0 to 4 sum 9 pays 8;").gains(0), 1);
        due(of(text + "policy 0 from 0 to 4 sum 9 pays 0;").takes(1), -1);
        String three = "policy 0 from 0 to 4 sum 9 pays 8;policy 0 from 0 to 4 sum 9 pays 7;policy 1 from 0 to 4 sum 8 pays 6;";
        due(of(text + three).takes(0), 1);
        due(of(text + three + "policy 1 from 0 to 4 sum 9 pays 6;").takes(0), 3);
        due(of(text + "policy 0 from 29 to 29 sum 99 pays 0;" + three).takes(0), 2);
    }

    @Says("as if told for him (in place of its own), or none")
    static void t5_asIfToldForHim() {
        PepperPolicy x = of(HEAD.replace("law 0", "law 3") + "nose 9 holds 1;nose 0 holds 1;nose 5 holds 10;policy 1 from 1 to 4 sum 9 pays 2;");
        due(x.claim(0), 0);
        due(x.takes(0), 0);
        due(x.gains(0), 7);
        due(x.takes(1), -1);
        due(x.gains(1), 0);
        due(x.gains(2), 7);
        // By law 3 his own holding back halves it.
        x.stifle(1, 1);
        due(x.gains(0), 7);
        x.stifle(0, 1);
        due(x.gains(0), 2);
        due(x.gains(2), 7);
    }

    // ---- VI ----

    @Says("in place of those now; what comes to him by NETS as now, all else as it is")
    static void t6_inPlaceOfThoseNow() {
        // 3 6 9 12 15 of 6: he sneezes in 1 and 3, and so holds back in 1 alone of 0 .. 2 (and then in 2).
        String text = HEAD + "nose 3 holds 6;policy 0 from 1 to 1 sum 9 pays 0;";
        PepperPolicy x = of(text);
        due(x.hold(0), 1);
        due(x.holds(0), 2);
        x.stifle(0, 1);
        due(x.hold(0), 1);
        due(x.holds(0), 2);
        x.stifle(0, 4);
        due(x.holds(0), 2);
        // Snuff stays, and makes him sneeze in 0: ahead of 1 he begins anew.
        x.sniff(0, 0);
        due(x.hold(0), 0);
        due(x.holds(0), 0);
        // By the net he has 5 in 1 as now, though he would sneeze in 0 no more.
        PepperPolicy y = of(HEAD + "nose 5 holds 5;nose 0 holds 5;net 0 1;policy 1 from 1 to 1 sum 9 pays 0;policy 0 from 0 to 4 sum 9 pays 0;");
        due(y.hold(0), 1);
        due(y.hold(1), 5);
        due(y.holds(1), 31);
    }

    @Says("by which he does not SNEEZE in MINUTES of a POLICY of his")
    static void t6_inItsMinutesAlone() {
        String text = HEAD + "nose 5 holds 5;policy 0 from # to 29 sum 9 pays 0;";
        for (int from = 0; from < 8; from++) {
            PepperPolicy x = of(text.replace("#", "" + from));
            due(x.hold(0), Math.max(0, 5 - from));
            due(x.holds(0), from >= 5 ? 0 : 32 - (1 << from));
        }
    }

    // ---- VII ----

    @Says("gusts (1 .. 9, at a MINUTE) besides those told, by which all who are told SNEEZE so")
    static void t7_gusts() {
        String text = "house minutes 30 dust 0 law 0 money 0 odds 0;nose 1 holds #;";
        due(asks(text.replace("#", "1"), 0, 0).which(1), 9);
        due(asks(text.replace("#", "9"), 0, 0).which(1), 1);
        due(asks(text.replace("#", "9"), 0, 0).gust(1), 9);
        due(asks(text.replace("#", "9"), 0, 29).gust(1), 299);
        due(asks(text.replace("#", "9"), 0, 29).when(1), 1 << 29);
        due(asks(text.replace("#", "10"), 0, 0).which(1), 0);
        due(asks(text.replace("#", "10") + "gust 1 at 0;", 0, 0).which(1), 1);
        due(asks(text.replace("#", "10") + "gust 9 at 0;", 0, 0).gust(1), 1);
        due(asks(text.replace("#", "10") + "gust 9 at 0;".repeat(5), 0, 0).which(1), 270);
        due(asks(text.replace("#", "1")).which(1), 270);
        due(asks(text.replace("#", "1"), 0, 0, 0, 1).which(1), 0);
        due(asks(text.replace("#", "1"), 0, 5, 0, 5).which(1), 9);
        // One more tickle ahead of its time undoes a sneeze: 1 2 3 4 of 4, he has to sneeze in 3.
        due(asks(HEAD + "nose 1 holds 4;", 0, 3).which(1), 9 + 9);
        due(asks(HEAD + "nose 1 holds 4;", 0, 3).gust(1), 31);
        due(asks(HEAD + "nose 1 holds 4;", 0, 3).when(1), 8 + 16);
    }

    // ---- VIII ----

    @Says("He LOSES 3 for each of his SNEEZES, and 1 for each 4 MINUTES, if he HOLDS BACK in all (cut).")
    static void t8_loses() {
        int[] minutes = {1, 3, 4, 7, 8, 29, 30};
        for (int n : minutes) {
            PepperPolicy x = of("house minutes " + n + " dust 1 law 0 money 0 odds 0;nose 9 holds 1;nose 0 holds 99;");
            due(x.loses(0, 1, 0, 0), 3 * n);
            due(x.loses(0, 1, 1, 0), n / 4);
            due(x.loses(1, 0, 0, 0), 0);
            due(x.loses(1, 0, 1, 0), n / 4);
            due(x.loses(1, 0, 0, 1), 0);
        }
        PepperPolicy x = of(HEAD.replace("5", "9") + "nose 9 holds 1;nose 0 holds 99;");
        x.stifle(0, 0);
        due(x.loses(0, 1, 0, 0), 24);
        due(x.loses(0, 1, 1, 0), 2);
    }

    @Says("REST: neither LOSES less by the other choice alone.")
    static void t8_rest() {
        // Of as much he does not lose less: three minutes cost nothing.
        due(of("house minutes 3 dust 0 law 0 money 0 odds 0;nose 0 holds 1;nose 0 holds 1;").rests(0, 1), 15);
        due(of("house minutes 4 dust 0 law 0 money 0 odds 0;nose 0 holds 1;nose 0 holds 1;").rests(0, 1), 1);
        // Once in 4 minutes: 3 as now, 1 in all. Once in 12: 3 and 3. Once in 16: 3 and 4.
        String once = "nose 0 holds 1;nose 1 holds 1;gust 1 at 0;";
        due(of("house minutes 4 dust 0 law 0 money 0 odds 0;" + once).rests(1, 0), 2);
        due(of("house minutes 4 dust 0 law 0 money 0 odds 0;" + once).rests(0, 1), 4);
        due(of("house minutes 12 dust 0 law 0 money 0 odds 0;" + once).rests(1, 0), 1 + 2);
        due(of("house minutes 12 dust 0 law 0 money 0 odds 0;" + once).rests(0, 1), 1 + 4);
        due(of("house minutes 16 dust 0 law 0 money 0 odds 0;" + once).rests(1, 0), 1);
        due(of("house minutes 4 dust 0 law 0 money 0 odds 0;nose 1 holds 1;nose 1 holds 1;gust 1 at 0;").rests(0, 1), 8);
    }

    // ---- IX ----

    @Says("in each MINUTE there is one with odds in ten, by itself")
    static void t9_oddsInTen() {
        String text = "house minutes 8 dust 0 law 0 money 0 odds #;nose 1 holds 3;";
        for (int odds = 0; odds <= 10; odds++) {
            PepperPolicy x = of(text.replace("#", "" + odds));
            long none = 10 - odds;
            long above = 100 - none * none;
            due(x.chance(0, 1, 0) * 100, above * x.chance(0, 1, 1));
        }
        PepperPolicy never = of(text.replace("#", "0"));
        fraction(never.chance(0, 7, 0), never.chance(0, 7, 1), 0, 1);
        PepperPolicy ever = of(text.replace("#", "10"));
        fraction(ever.chance(0, 7, 0), ever.chance(0, 7, 1), 1, 1);
        PepperPolicy once = of(text.replace("#", "9"));
        fraction(once.chance(0, 7, 0), once.chance(0, 7, 1), 99999999, 100000000);
    }

    @Says("FRACTIONS are told in lowest terms (0 / 1).")
    static void t9_lowestTerms() {
        String text = "house minutes 8 dust 0 law 0 money 0 odds #;nose 1 holds 24;policy 0 from 0 to 7 sum 50 pays 0;";
        long[][] tenths = {{0, 1}, {1, 10}, {1, 5}, {3, 10}, {2, 5}, {1, 2}, {3, 5}, {7, 10}, {4, 5}, {9, 10}, {1, 1}};
        for (int odds = 0; odds <= 10; odds++) {
            PepperPolicy one = of("house minutes 1 dust 0 law 0 money 0 odds " + odds + ";nose 1 holds 3;policy 0 from 0 to 0 sum 1 pays 0;");
            fraction(one.chance(0, 0, 0), one.chance(0, 0, 1), tenths[odds][0], tenths[odds][1]);
            fraction(one.fair(0, 0, 0), one.fair(0, 0, 1), tenths[odds][0], tenths[odds][1]);
            fraction(one.risk(0, 0), one.risk(0, 1), tenths[odds][0], tenths[odds][1]);
        }
        PepperPolicy x = of(text.replace("#", "5"));
        fraction(x.chance(0, 7, 0), x.chance(0, 7, 1), 1, 256);
        fraction(x.fair(0, 7, 0), x.fair(0, 7, 1), 25, 128);
        fraction(x.chance(0, 6, 0), x.chance(0, 6, 1), 0, 1);
        fraction(x.risk(7, 0), x.risk(7, 1), 1, 256);
        x = of(text.replace("#", "1"));
        fraction(x.chance(0, 7, 0), x.chance(0, 7, 1), 1, 100000000);
        fraction(x.fair(0, 7, 0), x.fair(0, 7, 1), 1, 2000000);
        x = of(text.replace("#", "0"));
        fraction(x.fair(0, 7, 0), x.fair(0, 7, 1), 0, 1);
        fraction(x.risk(7, 0), x.risk(7, 1), 0, 1);
        x = of(text.replace("#", "10"));
        fraction(x.fair(0, 7, 0), x.fair(0, 7, 1), 50, 1);
        fraction(x.risk(7, 0), x.risk(7, 1), 1, 1);
    }

    private static PepperPolicy odds(int odds) {
        return of("house minutes 12 dust 0 law 0 money 0 odds " + odds + ";");
    }

    /** Minutes of which the draw is below odds. */
    private static int below(int odds, int... draws) {
        int bits = 0;
        for (int m = 0; m < draws.length; m++) if (draws[m] < odds) bits |= 1 << m;
        return bits;
    }

    @Says("x becomes (1103515245 x + 12345) modulo 2,147,483,648 (at first it is the seed); a draw: x / 65536, cut, modulo 10.")
    static void t9_draws() {
        // Reckoned apart from the class, by numbers of any length.
        int[] zero = {0, 8, 8, 7, 8, 7, 5, 1, 2, 0, 1, 2};
        int[] one = {8, 8, 3, 5, 1, 7, 0, 9, 2, 6, 9, 7};
        int[] last = {4, 3, 1, 7, 6, 2, 7, 7, 5, 4, 7, 0};
        for (int odds = 0; odds <= 10; odds++) {
            due(odds(odds).drawn(0, 0), below(odds, zero));
            due(odds(odds).drawn(1, 0), below(odds, one));
            due(odds(odds).drawn(2000000000, 0), below(odds, last));
        }
    }

    @Says("MINUTE by MINUTE a draw: below odds there is a PUFF.")
    static void t9_belowOdds() {
        // The first draw of seed 5 is 5, of seed 0 it is 0.
        due(odds(5).drawn(5, 0) & 1, 0);
        due(odds(6).drawn(5, 0) & 1, 1);
        due(odds(0).drawn(0, 0), 0);
        due(odds(1).drawn(0, 0), 1 + 512);
        due(odds(9).drawn(1, 0), 4095 - 128 - 1024);
        due(odds(10).drawn(1, 0), 4095);
        due(of("house minutes 30 dust 0 law 0 money 0 odds 10;").drawn(77, 0), (1 << 30) - 1);
        due(of("house minutes 1 dust 0 law 0 money 0 odds 10;").drawn(77, 0), 1);
    }
}
