import java.util.Random;

/** Texts of houses drawn by a fixed seed: good ones, and ones with something wrong in them. */
final class RandomHouses {
    private final Random random;

    RandomHouses(Random random) {
        this.random = random;
    }

    private int in(int low, int high) {
        return low + random.nextInt(high - low + 1);
    }

    String good() {
        StringBuilder text = new StringBuilder();
        int minutes = random.nextInt(4) == 0 ? in(1, 30) : in(3, 12);
        int money = random.nextInt(3) == 0 ? in(0, 999) : in(0, 60);
        line(text, "house minutes " + minutes + " dust " + in(0, random.nextInt(3) == 0 ? 9 : 2) + " law " + in(0, 3)
            + " money " + money + " odds " + in(0, 10));
        int persons = in(0, 6) == 0 ? in(0, 1) : in(1, 6);
        for (int p = 0; p < persons; p++) {
            line(text, "nose " + in(0, random.nextInt(3) == 0 ? 9 : 3) + " holds " + in(1, random.nextInt(3) == 0 ? 99 : 25));
        }
        int gusts = in(0, 5);
        int nets = persons < 2 ? 0 : in(0, 8);
        int policies = persons < 1 ? 0 : in(0, 6);
        while (gusts + nets + policies > 0) {
            int kind = in(0, 2);
            if (kind == 0 && gusts-- > 0) {
                line(text, "gust " + in(1, 9) + " at " + in(0, random.nextInt(5) == 0 ? 29 : minutes - 1));
            } else if (kind == 1 && nets-- > 0) {
                int one = in(0, persons - 1);
                line(text, "net " + one + " " + (one + in(1, persons - 1)) % persons);
            } else if (kind == 2 && policies-- > 0) {
                int from = in(0, random.nextInt(8) == 0 ? 29 : minutes - 1);
                int to = random.nextInt(3) == 0 ? in(from, 29) : Math.min(29, from + in(0, 6));
                line(text, "policy " + in(0, persons - 1) + " from " + from + " to " + to + " sum "
                    + in(1, random.nextInt(3) == 0 ? 99 : 30) + " pays " + in(0, random.nextInt(4) == 0 ? 99 : 12));
            }
            gusts = Math.max(0, gusts);
            nets = Math.max(0, nets);
            policies = Math.max(0, policies);
        }
        return text.toString();
    }

    String wrong() {
        StringBuilder text = new StringBuilder(good());
        int changes = in(1, 2);
        for (int i = 0; i < changes; i++) {
            int at = text.length() == 0 ? 0 : random.nextInt(text.length());
            switch (in(0, 6)) {
                case 0 -> text.setLength(at);
                case 1 -> text.delete(at, at + 1);
                case 2 -> text.insert(at, " ;az9\n\t#A\u00e9".charAt(in(0, 9)));
                case 3 -> text.insert(at, new String[] {" house ", "nose ", " 99999999999999 ", "007", "net 0 0;", " - "}[in(0, 5)]);
                case 4 -> replaceNumber(text, at);
                case 5 -> text.append(manyMore());
                default -> text.insert(0, new String[] {";", "nose 1 holds 1 ;", " ", "\n", "x"}[in(0, 4)]);
            }
        }
        return text.toString();
    }

    private void replaceNumber(StringBuilder text, int from) {
        int i = from;
        while (i < text.length() && !Character.isDigit(text.charAt(i))) i++;
        if (i == text.length()) return;
        int j = i;
        while (j < text.length() && Character.isDigit(text.charAt(j))) j++;
        text.replace(i, j, String.valueOf(new int[] {0, 5, 6, 9, 10, 11, 29, 30, 31, 99, 100, 999, 1000}[in(0, 12)]));
    }

    private String manyMore() {
        String[] lines = {"nose 1 holds 50 ;", "gust 1 at 0 ;", "net 0 1 ;", "policy 0 from 0 to 1 sum 1 pays 1 ;"};
        return lines[in(0, 3)].repeat(in(1, 9));
    }

    private void line(StringBuilder text, String line) {
        text.append(line).append(random.nextBoolean() ? " ;\n" : ";");
    }
}
