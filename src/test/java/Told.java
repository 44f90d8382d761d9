/** Houses told to the class from texts, for the tests. */
final class Told {
    private Told() { }

    /** Puts a text on the tape, in place of what is there. */
    static void put(PepperPolicy x, String text) {
        x.end(0);
        for (int i = 0; i < text.length(); i += 20) {
            int[] n = new int[5];
            for (int j = 0; j < 20; j++) {
                n[j / 4] = n[j / 4] << 8 | (i + j < text.length() ? text.charAt(i + j) : 'z');
            }
            if (x.feed(n[0], n[1], n[2], n[3], n[4]) != i + 20) throw new IllegalStateException("no room for " + text);
        }
        if (x.end(text.length()) != text.length()) throw new IllegalStateException("the tape does not end behind " + text);
    }

    static PepperPolicy of(String text) {
        PepperPolicy x = new PepperPolicy();
        put(x, text);
        if (x.house() < 0) throw new IllegalStateException("fault " + x.fault(0) + " at " + x.fault(1) + " in " + text);
        return x;
    }
}
