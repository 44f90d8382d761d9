import java.math.BigInteger;
import java.util.ArrayList;
import java.util.HashMap;
import java.util.List;
import java.util.Map;
import java.util.TreeSet;

/**
 * The document once more, as slow and as plain as it can be told: lists, sets, whole days for every question.
 * It shares no code and, where there is a choice, no way of reckoning with PepperPolicy.
 */
final class PlainPolicy {
    static final class Home implements Cloneable {
        int minutes, dust, law, money, odds, lines;
        List<int[]> noses = new ArrayList<>();
        List<int[]> gusts = new ArrayList<>();
        List<int[]> nets = new ArrayList<>();
        List<int[]> policies = new ArrayList<>();
        List<int[]> acts = new ArrayList<>();

        Home copy() {
            Home h = new Home();
            h.minutes = minutes;
            h.dust = dust;
            h.law = law;
            h.money = money;
            h.odds = odds;
            h.lines = lines;
            for (int[] x : noses) h.noses.add(x.clone());
            for (int[] x : gusts) h.gusts.add(x.clone());
            for (int[] x : nets) h.nets.add(x.clone());
            for (int[] x : policies) h.policies.add(x.clone());
            for (int[] x : acts) h.acts.add(x.clone());
            return h;
        }
    }

    /** What happens in a house, all of it lived from minute 0. */
    static final class Lived {
        List<TreeSet<Integer>> sneezes = new ArrayList<>();
        List<TreeSet<Integer>> held = new ArrayList<>();
        int[][] tickle;
        int[][] nets;
        int[] dust;

        int total() {
            int n = 0;
            for (TreeSet<Integer> s : sneezes) n += s.size();
            return n;
        }
    }

    private List<Integer> tape = new ArrayList<>();
    private int fault = 0;
    private int place = -1;
    private Home home = new Home();
    private final Home[] images = new Home[3];
    private final long[][] rows = new long[4][];
    private final int[] widths = new int[4];

    // ---- tape ----

    int feed(int a, int b, int c, int d, int e) {
        if (tape.size() > 880) return -1;
        for (int n : new int[] {a, b, c, d, e}) {
            tape.add(n >>> 24);
            tape.add((n >>> 16) % 256);
            tape.add((n >>> 8) % 256);
            tape.add(n & 0xff);
        }
        return tape.size();
    }

    int end(int n) {
        if (n < 0 || n > tape.size()) return -1;
        tape = new ArrayList<>(tape.subList(0, n));
        return n;
    }

    private static final class Fault extends RuntimeException {
        private static final long serialVersionUID = 1;
        final int what;
        final int at;

        Fault(int what, int at) {
            this.what = what;
            this.at = at;
        }
    }

    private record Token(String text, int at) { }

    private List<Token> tokens() {
        List<Token> list = new ArrayList<>();
        StringBuilder all = new StringBuilder();
        for (int b : tape) all.append((char) b);
        java.util.regex.Matcher m = java.util.regex.Pattern.compile("[a-z]+|[0-9]+|[^ \n]", java.util.regex.Pattern.DOTALL).matcher(all);
        while (m.find()) list.add(new Token(m.group(), m.start()));
        list.add(new Token("", tape.size()));
        return list;
    }

    private static final String[] SHAPES = {
        "house minutes 1-30 dust 0-9 law 0-3 money 0-999 odds 0-10 ;",
        "nose 0-9 holds 1-99 ;",
        "gust 1-9 at 0-29 ;",
        "net P Q ;",
        "policy P from 0-29 to F-29 sum 1-99 pays 0-99 ;",
    };

    int house() {
        Home told = new Home();
        try {
            List<Token> list = tokens();
            int i = 0;
            while (!list.get(i).text.isEmpty()) i = line(list, i, told);
        } catch (Fault f) {
            fault = f.what;
            place = f.at;
            tape.clear();
            return -4;
        }
        fault = 0;
        place = -1;
        tape.clear();
        home = told;
        return told.lines;
    }

    private int line(List<Token> list, int i, Home told) {
        Token head = list.get(i);
        int shape = -1;
        for (int s = 0; s < SHAPES.length; s++) {
            if (SHAPES[s].startsWith(head.text + " ") && Character.isLetter(head.text.charAt(0))) shape = s;
        }
        if (shape < 0 || (shape == 0) != (told.lines == 0)) throw new Fault(1, head.at);
        List<List<int[]>> lists = List.of(List.of(), told.noses, told.gusts, told.nets, told.policies);
        int[] most = {1, 6, 5, 8, 6};
        if (shape > 0 && lists.get(shape).size() == most[shape]) throw new Fault(3, head.at);
        List<Integer> numbers = new ArrayList<>();
        for (String part : SHAPES[shape].split(" ")) {
            Token t = list.get(i++);
            boolean number = part.contains("-") || part.equals("P") || part.equals("Q");
            if (!number) {
                if (!t.text.equals(part)) throw new Fault(1, t.at);
                continue;
            }
            if (!t.text.matches("[0-9]+")) throw new Fault(1, t.at);
            BigInteger n = new BigInteger(t.text);
            int low = 0;
            int high = told.noses.size() - 1;
            if (part.contains("-")) {
                String[] ends = part.split("-");
                low = ends[0].equals("F") ? numbers.get(1) : Integer.parseInt(ends[0]);
                high = Integer.parseInt(ends[1]);
            }
            if (n.compareTo(BigInteger.valueOf(low)) < 0 || n.compareTo(BigInteger.valueOf(high)) > 0) throw new Fault(2, t.at);
            if (part.equals("Q") && n.intValue() == numbers.get(0)) throw new Fault(2, t.at);
            numbers.add(n.intValue());
        }
        int[] all = new int[numbers.size()];
        for (int k = 0; k < all.length; k++) all[k] = numbers.get(k);
        if (shape == 0) {
            told.minutes = all[0];
            told.dust = all[1];
            told.law = all[2];
            told.money = all[3];
            told.odds = all[4];
        } else {
            lists.get(shape).add(all);
        }
        told.lines++;
        return i;
    }

    int fault(int what) {
        return what == 0 ? fault : what == 1 ? place : -1;
    }

    // ---- the day ----

    private static Lived live(Home h, TreeSet<Integer> puffs, int minutes) {
        Lived d = new Lived();
        int n = h.noses.size();
        d.tickle = new int[n][h.minutes];
        d.nets = new int[n][h.minutes];
        d.dust = new int[h.minutes];
        List<TreeSet<Integer>> snuffs = new ArrayList<>();
        for (int p = 0; p < n; p++) {
            d.sneezes.add(new TreeSet<>());
            d.held.add(new TreeSet<>());
            snuffs.add(new TreeSet<>());
        }
        for (int[] act : h.acts) (act[0] == 0 ? d.held : snuffs).get(act[1]).add(act[2]);
        for (int m = 0; m < minutes; m++) {
            d.dust[m] = h.dust + (puffs.contains(m) ? 3 : 0);
            for (int[] g : h.gusts) if (g[1] == m) d.dust[m] += g[0];
            for (int p = 0; p < n; p++) {
                int t = m > 0 ? d.tickle[p][m - 1] : 0;
                t += h.noses.get(p)[0] * d.dust[m];
                for (int[] net : h.nets) {
                    int other = net[0] == p ? net[1] : net[1] == p ? net[0] : -1;
                    if (other >= 0 && d.sneezes.get(other).contains(m - 1)) d.nets[p][m] += 5;
                }
                t += d.nets[p][m];
                if (snuffs.get(p).contains(m)) t += 40;
                if (t >= h.noses.get(p)[1] && !d.held.get(p).contains(m)) {
                    d.sneezes.get(p).add(m);
                    t = 0;
                }
                d.tickle[p][m] = t;
            }
        }
        return d;
    }

    private static Lived live(Home h) {
        return live(h, new TreeSet<>(), h.minutes);
    }

    private Lived now() {
        return live(home);
    }

    private static int bits(Iterable<Integer> set) {
        int b = 0;
        for (int i : set) b += 1 << i;
        return b;
    }

    private boolean none() {
        return home.lines == 0;
    }

    private boolean person(int p) {
        return p >= 0 && p < home.noses.size();
    }

    private boolean minute(int m) {
        return m >= 0 && m < home.minutes;
    }

    private boolean polic(int q) {
        return q >= 0 && q < home.policies.size();
    }

    int nose(int p, int what) {
        return person(p) && (what == 0 || what == 1) ? home.noses.get(p)[what] : -2;
    }

    int policy(int q, int what) {
        return polic(q) && what >= 0 && what <= 4 ? home.policies.get(q)[what] : -2;
    }

    int beside(int p) {
        if (!person(p)) return -2;
        TreeSet<Integer> set = new TreeSet<>();
        for (int[] net : home.nets) {
            if (net[0] == p) set.add(net[1]);
            if (net[1] == p) set.add(net[0]);
        }
        return bits(set);
    }

    int dust(int m) {
        return minute(m) ? now().dust[m] : -2;
    }

    int sneezes(int p) {
        return person(p) ? bits(now().sneezes.get(p)) : -2;
    }

    int first(int p) {
        if (!person(p)) return -2;
        TreeSet<Integer> s = now().sneezes.get(p);
        return s.isEmpty() ? -1 : s.first();
    }

    int all() {
        return none() ? -2 : now().total();
    }

    int who(int m) {
        if (!minute(m)) return -2;
        TreeSet<Integer> set = new TreeSet<>();
        Lived d = now();
        for (int p = 0; p < home.noses.size(); p++) if (d.sneezes.get(p).contains(m)) set.add(p);
        return bits(set);
    }

    int tickle(int p, int m) {
        return person(p) && minute(m) ? now().tickle[p][m] : -2;
    }

    int itch(int p) {
        if (!person(p)) return -2;
        int best = 0;
        for (int t : now().tickle[p]) if (t > best) best = t;
        return best;
    }

    int caught(int p) {
        if (!person(p)) return -2;
        int sum = 0;
        for (int t : now().nets[p]) sum += t;
        return sum;
    }

    int gave(int p) {
        if (!person(p)) return -2;
        int f = first(p);
        return f <= 0 ? 0 : who(f - 1) & beside(p);
    }

    int worst() {
        if (none()) return -2;
        Lived d = now();
        int best = -1;
        for (int p = home.noses.size() - 1; p >= 0; p--) {
            int n = d.sneezes.get(p).size();
            if (n > 0 && (best < 0 || n >= d.sneezes.get(best).size())) best = p;
        }
        return best;
    }

    int chorus() {
        if (none()) return -2;
        int best = 0;
        for (int m = 0; m < home.minutes; m++) best = Math.max(best, Integer.bitCount(who(m)));
        return best;
    }

    int calm() {
        if (none()) return -2;
        int best = 0;
        for (int a = 0; a < home.minutes; a++) {
            for (int b = a; b < home.minutes && who(b) == 0; b++) best = Math.max(best, b - a + 1);
        }
        return best;
    }

    int pause(int p) {
        if (!person(p)) return -2;
        int best = -1;
        TreeSet<Integer> s = now().sneezes.get(p);
        for (int m : s) {
            Integer next = s.higher(m);
            if (next != null && (best < 0 || next - m < best)) best = next - m;
        }
        return best;
    }

    int later(int p, int m) {
        if (!person(p) || !minute(m)) return -2;
        Integer next = now().sneezes.get(p).ceiling(m);
        return next == null ? -1 : next;
    }

    int covered(int p) {
        if (!person(p)) return -2;
        TreeSet<Integer> set = new TreeSet<>();
        for (int[] q : home.policies) {
            for (int m = q[1]; m <= q[2]; m++) if (q[0] == p && m < home.minutes) set.add(m);
        }
        return bits(set);
    }

    int naked() {
        if (none()) return -2;
        TreeSet<Integer> set = new TreeSet<>();
        for (int p = 0; p < home.noses.size(); p++) {
            for (int m : now().sneezes.get(p)) if ((covered(p) >> m) % 2 == 0) set.add(p);
        }
        return bits(set);
    }

    int covers(int m) {
        if (!minute(m)) return -2;
        TreeSet<Integer> set = new TreeSet<>();
        for (int q = 0; q < home.policies.size(); q++) {
            if (home.policies.get(q)[1] <= m && m <= home.policies.get(q)[2]) set.add(q);
        }
        return bits(set);
    }

    // ---- claims ----

    /** The claim, and the minute in which it is paid (none where nothing counts). */
    private static int[] claimOf(Home h, Lived d, int[] q, int person) {
        List<Integer> counts = new ArrayList<>();
        for (int m = q[1]; m <= q[2]; m++) {
            boolean gust = false;
            for (int[] g : h.gusts) if (g[1] == m) gust = true;
            if (d.sneezes.get(person).contains(m) && !(h.law == 1 && gust)) counts.add(m);
        }
        if (counts.isEmpty()) return new int[] {0, -1};
        int claim = q[3];
        if (h.law == 2) claim = counts.size() == 1 ? q[3] : counts.size() == 2 ? 2 * q[3] : 3 * q[3];
        if (h.law == 3) {
            boolean held = false;
            for (int m = q[1]; m < counts.get(0); m++) held |= d.held.get(person).contains(m);
            if (held) claim = q[3] / 2;
        }
        return new int[] {claim, counts.get(0)};
    }

    private static int[] claimOf(Home h, Lived d, int q) {
        return claimOf(h, d, h.policies.get(q), h.policies.get(q)[0]);
    }

    private static int moneyOf(Home h, Lived d, int minute) {
        int money = h.money;
        for (int q = 0; q < h.policies.size(); q++) {
            money += h.policies.get(q)[4];
            int[] c = claimOf(h, d, q);
            if (c[1] >= 0 && c[1] <= minute) money -= c[0];
        }
        return money;
    }

    private static int ruinOf(Home h, Lived d, int minutes) {
        for (int m = 0; m < minutes; m++) if (moneyOf(h, d, m) < 0) return m;
        return -1;
    }

    int claim(int q) {
        return polic(q) ? claimOf(home, now(), q)[0] : -2;
    }

    int paid(int q) {
        return polic(q) ? claimOf(home, now(), q)[1] : -2;
    }

    int claims() {
        if (none()) return -2;
        TreeSet<Integer> set = new TreeSet<>();
        for (int q = 0; q < home.policies.size(); q++) if (claim(q) > 0) set.add(q);
        return bits(set);
    }

    int profit(int q) {
        return polic(q) ? home.policies.get(q)[4] - claim(q) : -100000;
    }

    int money(int m) {
        return minute(m) ? moneyOf(home, now(), m) : -100000;
    }

    int ruin() {
        return none() ? -2 : ruinOf(home, now(), home.minutes);
    }

    int lowest() {
        if (none()) return -2;
        int best = home.minutes - 1;
        for (int m = home.minutes - 1; m >= 0; m--) if (money(m) <= money(best)) best = m;
        return best;
    }

    int dear() {
        if (none()) return -2;
        int best = -1;
        for (int q = 0; q < home.policies.size(); q++) {
            if (profit(q) < 0 && (best < 0 || profit(q) < profit(best))) best = q;
        }
        return best;
    }

    int reserve() {
        if (none()) return -2;
        Home h = home.copy();
        Lived d = now();
        for (h.money = 0; h.money <= 999; h.money++) if (ruinOf(h, d, h.minutes) == -1) return h.money;
        return -1;
    }

    int by(int law) {
        if (none() || law < 0 || law > 3) return -100000;
        Home h = home.copy();
        h.law = law;
        return moneyOf(h, live(h), h.minutes - 1);
    }

    int law() {
        if (none()) return -2;
        int best = 3;
        for (int l = 2; l >= 0; l--) if (by(l) >= by(best)) best = l;
        return best;
    }

    // ---- otherwise ----

    int dull(int p) {
        if (!person(p)) return -2;
        int best = -1;
        for (int k = 0; k <= 9; k++) {
            Home h = home.copy();
            h.noses.get(p)[0] = k;
            if (live(h).sneezes.get(p).isEmpty()) best = k;
        }
        return best;
    }

    int bears(int p) {
        if (!person(p)) return -2;
        for (int k = 1; k <= 99; k++) {
            Home h = home.copy();
            h.noses.get(p)[1] = k;
            if (live(h).sneezes.get(p).isEmpty()) return k;
        }
        return -1;
    }

    int clean() {
        if (none()) return -2;
        int best = -1;
        for (int k = 0; k <= 9; k++) {
            Home h = home.copy();
            h.dust = k;
            if (live(h).total() == 0) best = k;
        }
        return best;
    }

    private static Home holdingAll(Home home, int p) {
        Home h = home.copy();
        for (int m = 0; m < h.minutes; m++) h.acts.add(new int[] {0, p, m});
        return h;
    }

    int spreads(int p) {
        if (!person(p)) return -2;
        Lived d = live(holdingAll(home, p));
        TreeSet<Integer> set = new TreeSet<>();
        for (int o = 0; o < home.noses.size(); o++) {
            if (o != p && d.sneezes.get(o).size() < now().sneezes.get(o).size()) set.add(o);
        }
        return bits(set);
    }

    int web(int p) {
        if (!person(p)) return -2;
        TreeSet<Integer> set = new TreeSet<>();
        spread(p, set);
        return bits(set);
    }

    private void spread(int p, TreeSet<Integer> set) {
        if (!set.add(p)) return;
        for (int o = 0; o < home.noses.size(); o++) if ((beside(p) >> o) % 2 == 1) spread(o, set);
    }

    int cut(int n) {
        if (n < 0 || n >= home.nets.size()) return -2;
        Home h = home.copy();
        h.nets.remove(n);
        return live(h).total();
    }

    int cuts() {
        if (none()) return -2;
        int best = -1;
        for (int n = 0; n < home.nets.size(); n++) {
            if (cut(n) < all() && (best < 0 || cut(n) < cut(best))) best = n;
        }
        return best;
    }

    // ---- menu ----

    private int gain(Home h, int p, int q) {
        return claimOf(h, live(h), h.policies.get(q), p)[0] - h.policies.get(q)[4];
    }

    private int taken(Home h, int p) {
        int best = -1;
        for (int q = h.policies.size() - 1; q >= 0; q--) {
            if (gain(h, p, q) > 0 && (best < 0 || gain(h, p, q) >= gain(h, p, best))) best = q;
        }
        return best;
    }

    int takes(int p) {
        return person(p) ? taken(home, p) : -2;
    }

    int gains(int p) {
        if (!person(p)) return -2;
        return taken(home, p) < 0 ? 0 : gain(home, p, taken(home, p));
    }

    int price(int q) {
        if (!polic(q)) return -2;
        for (int pays = 0; pays <= 999; pays++) {
            Home h = home.copy();
            h.policies.get(q)[4] = pays;
            boolean free = true;
            for (int p = 0; p < h.noses.size() && free; p++) if (taken(h, p) == q) free = false;
            if (free) return pays;
        }
        return -1;
    }

    // ---- holding ----

    /** The least (how many, which) of all sets for the minutes from one on, each minute held back in or not. */
    private static long[] least(int m, int tickle, int[] comes, int limit, int[] q, Map<Long, long[]> known) {
        if (m >= comes.length || m > q[2]) return new long[] {0, 0};
        long key = m * 1000000L + tickle;
        if (known.containsKey(key)) return known.get(key);
        int t = tickle + comes[m];
        long[] after = least(m + 1, t, comes, limit, q, known);
        long[] best = {after[0] + 1, after[1] + (1L << m)};
        boolean wouldSneeze = t >= limit;
        if (!(wouldSneeze && m >= q[1])) {
            long[] free = least(m + 1, wouldSneeze ? 0 : t, comes, limit, q, known);
            if (free[0] < best[0] || free[0] == best[0] && free[1] < best[1]) best = free;
        }
        known.put(key, best);
        return best;
    }

    private long[] holding(int policy) {
        int[] q = home.policies.get(policy);
        Lived d = now();
        int[] comes = new int[home.minutes];
        for (int m = 0; m < home.minutes; m++) {
            comes[m] = home.noses.get(q[0])[0] * d.dust[m] + d.nets[q[0]][m];
            for (int[] act : home.acts) {
                if (act[0] == 1 && act[1] == q[0] && act[2] == m) {
                    comes[m] += 40;
                    break;
                }
            }
        }
        int limit = home.noses.get(q[0])[1];
        if (home.minutes <= 9) return ofAllSets(comes, limit, q);
        return least(0, 0, comes, limit, q, new HashMap<>());
    }

    private static long[] ofAllSets(int[] comes, int limit, int[] q) {
        long[] best = {99, 0};
        for (int set = 0; set < 1 << comes.length; set++) {
            int t = 0;
            boolean good = true;
            for (int m = 0; m < comes.length; m++) {
                t += comes[m];
                if (t >= limit && (set >> m) % 2 == 0) {
                    t = 0;
                    if (m >= q[1] && m <= q[2]) good = false;
                }
            }
            if (good && Integer.bitCount(set) < best[0]) best = new long[] {Integer.bitCount(set), set};
        }
        return best;
    }

    int hold(int q) {
        return polic(q) ? (int) holding(q)[0] : -2;
    }

    int holds(int q) {
        return polic(q) ? (int) holding(q)[1] : -2;
    }

    int frauds(int q) {
        if (!polic(q)) return -2;
        TreeSet<Integer> set = new TreeSet<>();
        for (int m = 0; m < home.minutes; m++) {
            Home h = home.copy();
            h.acts.add(new int[] {1, h.policies.get(q)[0], m});
            if (claimOf(h, live(h), q)[0] > claim(q)) set.add(m);
        }
        return bits(set);
    }

    int snuff(int q) {
        if (!polic(q)) return -2;
        for (int m = 0; m < home.minutes; m++) if ((frauds(q) >> m) % 2 == 1) return m;
        return -1;
    }

    // ---- which ----

    private int refusal(int slot) {
        if (slot < 0 || slot > 3 || none()) return -2;
        if (rows[slot] == null) return -6;
        if (rows[slot].length % 2 == 1) return -2;
        for (int i = 0; i < rows[slot].length; i++) {
            int bound = i % 2 == 0 ? home.noses.size() : home.minutes;
            if (rows[slot][i] < 0 || rows[slot][i] >= bound) return -2;
        }
        return 0;
    }

    /** Minute, gust and the day of each. */
    private List<Object[]> candidates(int slot) {
        List<Object[]> list = new ArrayList<>();
        for (int m = 0; m < home.minutes; m++) {
            for (int g = 1; g <= 9; g++) {
                Home h = home.copy();
                h.gusts.add(new int[] {g, m});
                Lived d = live(h);
                boolean good = true;
                for (int i = 0; i < rows[slot].length; i += 2) {
                    if (!d.sneezes.get((int) rows[slot][i]).contains((int) rows[slot][i + 1])) good = false;
                }
                if (good) list.add(new Object[] {m, g, d});
            }
        }
        return list;
    }

    int which(int slot) {
        return refusal(slot) != 0 ? refusal(slot) : candidates(slot).size();
    }

    int when(int slot) {
        if (refusal(slot) != 0) return refusal(slot);
        TreeSet<Integer> set = new TreeSet<>();
        for (Object[] c : candidates(slot)) set.add((Integer) c[0]);
        return bits(set);
    }

    int gust(int slot) {
        if (refusal(slot) != 0) return refusal(slot);
        List<Object[]> list = candidates(slot);
        return list.isEmpty() ? -1 : 10 * (Integer) list.get(0)[0] + (Integer) list.get(0)[1];
    }

    private int[] asked(int slot) {
        List<Object[]> list = candidates(slot);
        int[] best = {-1, list.size()};
        for (int p = 0; p < home.noses.size(); p++) {
            Map<Integer, Integer> groups = new HashMap<>();
            for (Object[] c : list) groups.merge(((Lived) c[2]).sneezes.get(p).size(), 1, Integer::sum);
            int most = 0;
            for (int n : groups.values()) most = Math.max(most, n);
            if (most < best[1]) best = new int[] {p, most};
        }
        return best;
    }

    int ask(int slot) {
        return refusal(slot) != 0 ? refusal(slot) : asked(slot)[0];
    }

    int leaves(int slot) {
        return refusal(slot) != 0 ? refusal(slot) : asked(slot)[1];
    }

    // ---- game ----

    private int loss(int a, int b, int x, int y) {
        Home h = home;
        if (x == 1) h = holdingAll(h, a);
        if (y == 1) h = holdingAll(h, b);
        return 3 * live(h).sneezes.get(a).size() + (x == 1 ? home.minutes / 4 : 0);
    }

    int loses(int a, int b, int x, int y) {
        if (!person(a) || !person(b) || a == b || x < 0 || x > 1 || y < 0 || y > 1) return -2;
        return loss(a, b, x, y);
    }

    int rests(int a, int b) {
        if (!person(a) || !person(b) || a == b) return -2;
        int set = 0;
        int[][] pairs = {{0, 0, 1}, {1, 0, 2}, {0, 1, 4}, {1, 1, 8}};
        for (int[] pair : pairs) {
            boolean aLeaves = loss(a, b, 1 - pair[0], pair[1]) < loss(a, b, pair[0], pair[1]);
            boolean bLeaves = loss(b, a, 1 - pair[1], pair[0]) < loss(b, a, pair[1], pair[0]);
            if (!aLeaves && !bLeaves) set += pair[2];
        }
        return set;
    }

    // ---- puffs ----

    private BigInteger mean(int kind, int index, int n, int m, TreeSet<Integer> puffs) {
        if (m == n) {
            Lived d = live(home, puffs, kind == 2 ? home.minutes : n);
            if (kind == 0) return BigInteger.valueOf(d.sneezes.get(index).isEmpty() ? 0 : 1);
            if (kind == 1) return BigInteger.valueOf(claimOf(home, d, index)[0]);
            return BigInteger.valueOf(ruinOf(home, d, n) < 0 ? 0 : 1);
        }
        TreeSet<Integer> more = new TreeSet<>(puffs);
        more.add(m);
        return mean(kind, index, n, m + 1, more).multiply(BigInteger.valueOf(home.odds))
            .add(mean(kind, index, n, m + 1, puffs).multiply(BigInteger.valueOf(10 - home.odds)));
    }

    private long part(int kind, int index, int minute, int what) {
        BigInteger above = mean(kind, index, minute + 1, 0, new TreeSet<>());
        BigInteger below = BigInteger.TEN.pow(minute + 1);
        BigInteger g = above.gcd(below);
        return (what == 0 ? above : below).divide(g).longValueExact();
    }

    long chance(int p, int m, int what) {
        return person(p) && minute(m) && m <= 7 && (what == 0 || what == 1) ? part(0, p, m, what) : -2;
    }

    long fair(int q, int m, int what) {
        return polic(q) && minute(m) && m <= 7 && (what == 0 || what == 1) ? part(1, q, m, what) : -2;
    }

    long risk(int m, int what) {
        return minute(m) && m <= 7 && (what == 0 || what == 1) ? part(2, -1, m, what) : -2;
    }

    private TreeSet<Integer> draws(long seed) {
        TreeSet<Integer> puffs = new TreeSet<>();
        BigInteger x = BigInteger.valueOf(seed);
        for (int m = 0; m < home.minutes; m++) {
            x = x.multiply(BigInteger.valueOf(1103515245)).add(BigInteger.valueOf(12345)).mod(BigInteger.TWO.pow(31));
            if (x.longValueExact() / 65536 % 10 < home.odds) puffs.add(m);
        }
        return puffs;
    }

    int drawn(int seed, int what) {
        if (none() || seed < 0 || seed > 2000000000 || what < 0 || what > 2) return -2;
        TreeSet<Integer> puffs = draws(seed);
        Lived d = live(home, puffs, home.minutes);
        return what == 0 ? bits(puffs) : what == 1 ? d.total() : ruinOf(home, d, home.minutes);
    }

    int luck(int seed, int n, int q) {
        if (!polic(q) || seed < 0 || seed > 2000000000 || n < 1 || n > 20) return -2;
        int days = 0;
        for (long s = seed; s < (long) seed + n; s++) {
            if (claimOf(home, live(home, draws(s), home.minutes), q)[0] > 0) days++;
        }
        return days;
    }

    // ---- acts ----

    int stifle(int p, int m) {
        if (!person(p) || !minute(m)) return -2;
        if (home.acts.size() == 40) return -5;
        home.acts.add(new int[] {0, p, m});
        return tickle(p, m);
    }

    int sniff(int p, int m) {
        if (!person(p) || !minute(m)) return -2;
        if (home.acts.size() == 40) return -5;
        home.acts.add(new int[] {1, p, m});
        return now().sneezes.get(p).contains(m) ? 1 : 0;
    }

    int undo() {
        if (none()) return -2;
        if (home.acts.isEmpty()) return -5;
        home.acts.remove(home.acts.size() - 1);
        return home.acts.size();
    }

    int anew() {
        if (none()) return -2;
        int n = home.acts.size();
        home.acts.clear();
        return n;
    }

    int rate(int q, int n) {
        if (!polic(q) || n < 0 || n > 99) return -2;
        if (!home.acts.isEmpty()) return -5;
        int was = home.policies.get(q)[4];
        home.policies.get(q)[4] = n;
        return was;
    }

    int count(int what) {
        int have = 0;
        for (long[] row : rows) if (row != null) have++;
        int[] all = {home.minutes, home.dust, home.law, home.money, home.odds, home.noses.size(), home.gusts.size(),
            home.nets.size(), home.policies.size(), home.acts.size(), home.lines, tape.size(), have};
        return what < 0 || what >= all.length ? -1 : all[what];
    }

    int image(int k) {
        if (k < 0 || k > 2) return -2;
        images[k] = home.copy();
        return 0;
    }

    int back(int k) {
        if (k < 0 || k > 2) return -2;
        if (images[k] == null) return -6;
        home = images[k].copy();
        return 0;
    }

    // ---- rows ----

    int row(int slot, int width, int n) {
        if (slot < 0 || slot > 3 || width < 0 || width > 3 || n > 60) return -2;
        if (n < 0) return -3;
        rows[slot] = new long[n];
        widths[slot] = width;
        return 0;
    }

    int write(int slot, int i, long v) {
        if (slot < 0 || slot > 3) return -2;
        if (rows[slot] == null) return -6;
        if (i < 0 || i >= rows[slot].length) return -7;
        int away = 64 - (8 << widths[slot]);
        rows[slot][i] = v << away >> away;
        return 0;
    }

    int paste(int slot, int i, int to, int k, int n) {
        if (slot < 0 || slot > 3 || to < 0 || to > 3) return -2;
        if (rows[slot] == null || rows[to] == null) return -6;
        if (widths[slot] != widths[to]) return -8;
        if (i < 0 || k < 0 || n < 0) return -7;
        if ((long) i + n > rows[slot].length || (long) k + n > rows[to].length) return -7;
        long[] were = rows[slot].clone();
        for (int j = 0; j < n; j++) rows[to][k + j] = were[i + j];
        return 0;
    }
}
