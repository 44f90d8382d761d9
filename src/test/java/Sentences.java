import java.io.IOException;
import java.lang.reflect.Method;
import java.nio.file.Files;
import java.nio.file.Path;
import java.util.Arrays;
import java.util.Comparator;
import java.util.HashMap;
import java.util.Map;
import java.util.TreeSet;
import java.util.function.IntToLongFunction;
import java.util.function.ToIntFunction;
import java.util.regex.Matcher;
import java.util.regex.Pattern;

/**
 * Tests of single sentences. A method's name says where its sentence stands: p12_.. under promise 12, t3_.. under III
 * of the Terms, block_.. in the block of them, use_.. under "What it is".
 */
abstract class Sentences {
    static final int MIN = Integer.MIN_VALUE;
    static final int MAX = Integer.MAX_VALUE;
    private static final int[] FAR = {-1, -2, -32, 30, 31, 32, 33, 60, 62, 64, 99, 256, 65536, 1 << 30, MIN, MIN + 1, MAX, MAX - 1};

    private static int wrong = 0;
    private static int asked = 0;
    private static String now = "";

    /** Runs the methods of a test, and asks that there is one at least for each of the places named. */
    static void run(Class<?> test, String... places) throws Exception {
        Map<String, String> document = document();
        Method[] methods = test.getDeclaredMethods();
        Arrays.sort(methods, Comparator.comparing(Method::getName));
        TreeSet<String> seen = new TreeSet<>();
        int count = 0;
        for (Method m : methods) {
            Says says = m.getAnnotation(Says.class);
            if (says == null) continue;
            now = m.getName();
            asked = 0;
            String place = now.substring(0, now.indexOf('_'));
            check(document.containsKey(place), "no such place in the document");
            check(document.getOrDefault(place, "").contains(says.value()), "the document does not say there: " + says.value());
            m.setAccessible(true);
            m.invoke(null);
            check(asked > 0, "asks nothing");
            seen.add(place);
            count++;
        }
        now = test.getName();
        for (String place : places) check(seen.contains(place), "nothing is asked of " + place);
        System.out.println(wrong == 0 ? count + " sentences hold" : wrong + " answers are wrong");
        if (wrong != 0) System.exit(1);
    }

    static String[] promises(int from, int to) {
        String[] places = new String[to - from + 1];
        for (int i = 0; i < places.length; i++) places[i] = "p" + (from + i);
        return places;
    }

    private static Map<String, String> document() throws IOException {
        String doc = Files.readString(Path.of(System.getProperty("project.root", ".")).resolve("../shared/DOC.md"));
        Map<String, String> places = new HashMap<>();
        Matcher promise = Pattern.compile("## Promise (\\d+):.*?\n(.*?)(?=\n## )", Pattern.DOTALL).matcher(doc);
        while (promise.find()) places.put("p" + promise.group(1), promise.group(2));
        String terms = doc.substring(doc.indexOf("## Terms"), doc.indexOf("## Promise 1:"));
        String[] roman = {"I", "II", "III", "IV", "V", "VI", "VII", "VIII", "IX"};
        for (int i = 0; i < roman.length; i++) {
            Matcher term = Pattern.compile("^" + roman[i] + "\\. (.*)$", Pattern.MULTILINE).matcher(terms);
            if (term.find()) places.put("t" + (i + 1), term.group(1));
        }
        places.put("block", terms.substring(terms.indexOf("```text"), terms.lastIndexOf("```")));
        places.put("use", doc.substring(doc.indexOf("## What it is"), doc.indexOf("## The public face")));
        return places;
    }

    static void check(boolean good, String what) {
        if (!good) {
            wrong++;
            System.out.println(now + ": " + what);
        }
    }

    static void due(long got, long want) {
        asked++;
        if (got != want) {
            wrong++;
            StackTraceElement[] stack = new Throwable().getStackTrace();
            int i = 1;
            while (i < stack.length - 1 && stack[i].getClassName().equals("Sentences")) i++;
            System.out.println(now + ", line " + stack[i].getLineNumber() + ": answered " + got + ", due is " + want);
        }
    }

    static void fraction(long above, long below, long wantAbove, long wantBelow) {
        due(above, wantAbove);
        due(below, wantBelow);
    }

    static PepperPolicy of(String text) {
        return Told.of(text);
    }

    static void put(PepperPolicy x, String text) {
        Told.put(x, text);
    }

    /** There are so many: each of these is answered, and the one ahead, the one behind and all far ones are refused. */
    static void only(int many, long refusal, IntToLongFunction f) {
        for (int i = 0; i < many; i++) {
            asked++;
            check(f.applyAsLong(i) != refusal, i + " is refused");
        }
        due(f.applyAsLong(many), refusal);
        due(f.applyAsLong(many + 1), refusal);
        for (int i : FAR) if (i < 0 || i > many) due(f.applyAsLong(i), refusal);
    }

    /** A text is no house: the fault is told, the tape is empty, and what was told ahead of it stays. */
    static void faultOf(String text, int fault, int place) {
        PepperPolicy x = of("house minutes 2 dust 3 law 0 money 0 odds 0 ;");
        put(x, text);
        due(x.house(), -4);
        due(x.fault(0), fault);
        due(x.fault(1), place);
        due(x.count(11), 0);
        due(x.dust(1), 3);
        due(x.dust(2), -2);
    }

    static void lines(String text, int lines) {
        PepperPolicy x = of("house minutes 2 dust 3 law 0 money 0 odds 0 ;");
        put(x, text);
        due(x.house(), lines);
        due(x.fault(0), 0);
        due(x.fault(1), -1);
    }

    /** A # stands for a number with bounds: within them it is read back, beyond them it is a fault of 2 at its place. */
    static void bounds(String text, int low, int high, ToIntFunction<PepperPolicy> reads) {
        int at = text.indexOf('#');
        for (int n : new int[] {low, low + 1, (low + high) / 2, high - 1, high}) {
            due(reads.applyAsInt(of(text.replace("#", "" + n))), n);
            due(reads.applyAsInt(of(text.replace("#", "0000000000000" + n))), n);
        }
        for (int n = 0; n < low; n++) faultOf(text.replace("#", "" + n), 2, at);
        faultOf(text.replace("#", "" + (high + 1)), 2, at);
        faultOf(text.replace("#", "000" + (high + 1)), 2, at);
        faultOf(text.replace("#", "" + (high + 2)), 2, at);
        faultOf(text.replace("#", high + "0" + low), 2, at);
        faultOf(text.replace("#", "" + (4294967296L + low)), 2, at);
        faultOf(text.replace("#", "1844674407370955162" + (6 + low % 4)), 2, at);
        faultOf(text.replace("#", "9".repeat(40)), 2, at);
        faultOf(text.replace("#", "-" + low), 1, at);
        faultOf(text.replace("#", ""), 1, nextToken(text.replace("#", ""), at));
        faultOf(text.replace("#", "a"), 1, at);
    }

    private static int nextToken(String text, int from) {
        int i = from;
        while (i < text.length() && text.charAt(i) == ' ') i++;
        return i;
    }

    static PepperPolicy asks(String text, int... row) {
        PepperPolicy x = of(text);
        due(x.row(1, 0, row.length), 0);
        for (int i = 0; i < row.length; i++) due(x.write(1, i, row[i]), 0);
        return x;
    }
}
