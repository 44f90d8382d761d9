import java.lang.reflect.Method;
import java.util.ArrayList;
import java.util.Arrays;
import java.util.Comparator;
import java.util.HashMap;
import java.util.List;
import java.util.Map;
import java.util.Random;
import java.util.TreeSet;

/** Runs of drawn calls, each answered by PepperPolicy as the plain telling of the document answers it. */
public final class AgainstPlainTest {
    private static final int RUNS = Integer.getInteger("runs", 260);
    private static final int CALLS = 512;
    private static int wrong = 0;
    private static final Map<String, TreeSet<Long>> SEEN = new HashMap<>();

    private final Random random;
    private final PepperPolicy is = new PepperPolicy();
    private final PlainPolicy due = new PlainPolicy();
    private final List<String> calls = new ArrayList<>();
    private final RandomHouses houses;
    private int left = CALLS;

    private AgainstPlainTest(long seed) {
        random = new Random(seed);
        houses = new RandomHouses(random);
    }

    public static void main(String[] args) throws Exception {
        Method[] methods = face();
        for (int seed = 0; seed < RUNS && wrong < 5; seed++) new AgainstPlainTest(seed).run(methods, seed);
        for (Method m : methods) {
            int answers = SEEN.getOrDefault(m.getName(), new TreeSet<>()).size();
            boolean few = m.getName().equals("image") || m.getName().equals("row");
            if (answers < (few ? 2 : 3)) {
                wrong++;
                System.out.println(m.getName() + " gave only " + answers + " answers: the runs try too little");
            }
        }
        System.out.println(wrong == 0 ? "all answers are as due" : wrong + " wrong");
        if (wrong != 0) System.exit(1);
    }

    static Method[] face() {
        List<Method> list = new ArrayList<>();
        for (Method m : PepperPolicy.class.getDeclaredMethods()) {
            if (java.lang.reflect.Modifier.isPublic(m.getModifiers())) list.add(m);
        }
        list.sort(Comparator.comparing(Method::getName));
        return list.toArray(new Method[0]);
    }

    private void run(Method[] methods, int seed) throws Exception {
        List<Method> few = new ArrayList<>(Arrays.asList(methods));
        few.removeIf(m -> m.getName().equals("feed") || m.getName().equals("end") || m.getName().equals("house"));
        if (random.nextInt(4) > 0) tell(random.nextInt(8) == 0 ? houses.wrong() : houses.good());
        int untilNext = 40 + random.nextInt(200);
        while (left > 0 && wrong < 5) {
            if (untilNext-- == 0) {
                tell(random.nextInt(3) == 0 ? houses.wrong() : random.nextInt(12) == 0 ? "  \n" : houses.good());
                untilNext = 30 + random.nextInt(150);
            }
            int kind = random.nextInt(40);
            if (kind == 0) {
                fillRow();
            } else if (kind == 1 && random.nextInt(6) == 0) {
                for (int i = 0; i < 42; i++) call(random.nextBoolean() ? "stifle" : "sniff", random.nextInt(7), random.nextInt(12));
            } else {
                Method m = few.get(random.nextInt(few.size()));
                boolean ends = List.of("anew", "undo", "row", "back").contains(m.getName());
                if (!ends || random.nextInt(4) == 0) callAtRandom(m);
            }
            if (random.nextInt(300) == 0) call("feed", random.nextInt(), random.nextInt(), random.nextInt(), random.nextInt(), random.nextInt());
            if (random.nextInt(300) == 0) call("end", random.nextInt(40) - 5);
        }
        if (wrong > 0) System.out.println("in run " + seed);
    }

    /** Pairs that a real day has, so that some gusts are found. */
    private void fillRow() throws Exception {
        int slot = random.nextInt(4);
        int pairs = random.nextInt(3);
        call("row", slot, random.nextInt(4), 2 * pairs + (random.nextInt(9) == 0 ? 1 : 0));
        for (int i = 0; i < pairs; i++) {
            int person = random.nextInt(Math.max(1, due.count(5)));
            int minute = random.nextInt(Math.max(1, due.count(0)));
            if (random.nextInt(3) > 0 && due.first(person) >= 0) minute = due.first(person);
            call("write", slot, 2 * i, (long) person);
            call("write", slot, 2 * i + 1, (long) minute);
        }
        for (String name : new String[] {"which", "when", "gust", "ask", "leaves"}) call(name, slot);
    }

    private void tell(String text) throws Exception {
        byte[] bytes = text.getBytes(java.nio.charset.StandardCharsets.ISO_8859_1);
        int rows = (bytes.length + 19) / 20;
        call("end", 0);
        for (int r = 0; r < rows; r++) {
            int[] n = new int[5];
            for (int i = 0; i < 20; i++) {
                int at = 20 * r + i;
                n[i / 4] = n[i / 4] << 8 | (at < bytes.length ? bytes[at] & 255 : 32);
            }
            call("feed", n[0], n[1], n[2], n[3], n[4]);
        }
        if (random.nextInt(8) > 0) call("end", bytes.length);
        call("house");
        call("fault", 0);
        call("fault", 1);
    }

    private void callAtRandom(Method m) throws Exception {
        Object[] args = new Object[m.getParameterCount()];
        boolean sound = random.nextInt(5) > 0;
        for (int i = 0; i < args.length; i++) {
            int n = sound ? soundArgument(m.getName(), i) : anyArgument();
            args[i] = m.getParameterTypes()[i] == long.class ? (Object) (random.nextInt(9) == 0 ? random.nextLong() : (long) n) : (Object) n;
        }
        call(m.getName(), args);
    }

    private int anyArgument() {
        int[] odd = {Integer.MIN_VALUE, Integer.MAX_VALUE, -1, 0, 1, 2, 3, 4, 5, 6, 7, 8, 9, 20, 21, 29, 30, 31, 40, 60, 61, 99, 100,
            2000000000, 2000000001, -2, 1 << 30, 32, 64};
        return odd[random.nextInt(odd.length)];
    }

    private int soundArgument(String name, int i) {
        int minutes = Math.max(1, due.count(0));
        int persons = Math.max(1, due.count(5));
        int policies = Math.max(1, due.count(8));
        switch (name) {
            case "tickle": case "later": case "stifle": case "sniff":
                return random.nextInt(i == 0 ? persons : minutes);
            case "rests": case "loses":
                return random.nextInt(i < 2 ? persons : 2);
            case "chance": return random.nextInt(i == 0 ? persons : i == 1 ? Math.min(8, minutes) : 2);
            case "fair": return random.nextInt(i == 0 ? policies : i == 1 ? Math.min(8, minutes) : 2);
            case "risk": return random.nextInt(i == 0 ? Math.min(8, minutes) : 2);
            case "drawn": return i == 0 ? random.nextInt(2000000001) : random.nextInt(3);
            case "luck": return i == 0 ? random.nextInt(2000000001) : i == 1 ? 1 + random.nextInt(20) : random.nextInt(policies);
            case "rate": return random.nextInt(i == 0 ? policies : 100);
            case "money": case "dust": case "who": case "covers": return random.nextInt(minutes);
            case "count": return random.nextInt(14);
            case "row": return i == 0 ? random.nextInt(4) : i == 1 ? random.nextInt(4) : random.nextInt(62);
            case "write": return i == 0 ? random.nextInt(4) : random.nextInt(8);
            case "paste": return i == 0 || i == 2 ? random.nextInt(4) : random.nextInt(5);
            default: return random.nextInt(6);
        }
    }

    private void call(String name, Object... args) throws Exception {
        if (left <= 0) return;
        left--;
        Method a = null;
        for (Method m : PepperPolicy.class.getDeclaredMethods()) {
            if (m.getName().equals(name) && java.lang.reflect.Modifier.isPublic(m.getModifiers())) a = m;
        }
        Method b = PlainPolicy.class.getDeclaredMethod(name, a.getParameterTypes());
        calls.add(name + Arrays.toString(args));
        long got = ((Number) a.invoke(is, args)).longValue();
        long want = ((Number) b.invoke(due, args)).longValue();
        SEEN.computeIfAbsent(name, k -> new TreeSet<>()).add(got);
        if (got != want) {
            wrong++;
            System.out.println(String.join("\n", calls));
            System.out.println("answered " + got + ", due is " + want);
        }
    }
}
