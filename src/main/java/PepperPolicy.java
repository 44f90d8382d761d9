import java.util.Arrays;

public final class PepperPolicy {
    public static final int NONE = -1;

    private static final int NO_SUCH = -2;
    private static final int BELOW_NOTHING = -3;
    private static final int FAULTY = -4;
    private static final int NOT_NOW = -5;
    private static final int HAS_NOTHING = -6;
    private static final int BEYOND = -7;
    private static final int OTHER_WIDTH = -8;
    private static final int NO_SUM = -100000;

    private static final int MOST_MINUTES = 30;
    private static final int MOST_PERSONS = 6;
    private static final int MOST_GUSTS = 5;
    private static final int MOST_NETS = 8;
    private static final int MOST_POLICIES = 6;
    private static final int MOST_ACTS = 40;
    private static final int MOST_BYTES = 900;
    private static final int BYTES_FED = 20;
    private static final int MOST_SLOTS = 4;
    private static final int MOST_NUMBERS = 60;
    private static final int MOST_IMAGES = 3;
    private static final int MOST_LAWS = 4;
    private static final int MOST_MONEY = 999;
    private static final int MOST_PAYS = 99;
    private static final int MOST_HOLDS = 99;
    private static final int MOST_DUST = 9;
    private static final int MOST_KEEN = 9;
    private static final int MOST_GUST = 9;
    private static final int LAST_PUFF_MINUTE = 7;
    private static final int LAST_SEED = 2000000000;
    private static final int MOST_DAYS = 20;

    // The places of House.counts are those that count(what) names.
    private static final int MINUTES = 0;
    private static final int DUST = 1;
    private static final int LAW = 2;
    private static final int MONEY = 3;
    private static final int ODDS = 4;
    private static final int PERSONS = 5;
    private static final int GUSTS = 6;
    private static final int NETS = 7;
    private static final int POLICIES = 8;
    private static final int ACTS = 9;
    private static final int LINES = 10;
    private static final int COUNTS = 11;
    private static final int TAPE_BYTES = 11;
    private static final int ROWS = 12;

    // The places of a policy's five numbers are those that policy(policy, what) names.
    private static final int WHOSE = 0;
    private static final int FROM = 1;
    private static final int TO = 2;
    private static final int SUM = 3;
    private static final int PAYS = 4;
    private static final int POLICY_NUMBERS = 5;

    private static final int STIFLED = 0;
    private static final int SNUFFED = 1;
    private static final int ACT_NUMBERS = 3;

    private static final int BY_NET = 5;
    private static final int BY_SNUFF = 40;
    private static final int BY_PUFF = 3;
    private static final int LOST_BY_SNEEZE = 3;
    private static final int MINUTES_LOST_BY = 4;

    private static final int ABOVE_ALL_TICKLE = 1000000;

    private static final int SNEEZES_AT_ALL = 0;
    private static final int CLAIMS = 1;
    private static final int RUINS = 2;

    private final House house = new House();
    private final House draft = new House();
    private final House[] images = new House[MOST_IMAGES];
    private final boolean[] kept = new boolean[MOST_IMAGES];
    private final Reader reader = new Reader();
    private final Slots slots = new Slots();
    private final Day day = new Day();
    private final Day trial = new Day();
    private final Ledger ledger = new Ledger();
    private final Holding holding = new Holding();
    private final Suspects suspects = new Suspects();
    private final Puffs puffs = new Puffs();

    public PepperPolicy() {
        for (int k = 0; k < MOST_IMAGES; k++) {
            images[k] = new House();
        }
    }

    // ---- the tape and the house ----

    public int feed(int a, int b, int c, int d, int e) {
        if (reader.length + BYTES_FED > MOST_BYTES) {
            return NONE;
        }
        reader.put(a);
        reader.put(b);
        reader.put(c);
        reader.put(d);
        reader.put(e);
        return reader.length;
    }

    public int end(int n) {
        if (n < 0 || n > reader.length) {
            return NONE;
        }
        reader.length = n;
        return n;
    }

    public int house() {
        reader.read(draft);
        reader.length = 0;
        if (reader.fault != 0) {
            return FAULTY;
        }
        house.copyFrom(draft);
        liveAnew();
        return house.counts[LINES];
    }

    public int fault(int what) {
        if (what == 0) {
            return reader.fault;
        }
        return what == 1 ? reader.place : NONE;
    }

    public int nose(int person, int what) {
        if (!isPerson(person) || what < 0 || what > 1) {
            return NO_SUCH;
        }
        return house.noses[2 * person + what];
    }

    public int policy(int policy, int what) {
        if (!isPolicy(policy) || what < 0 || what >= POLICY_NUMBERS) {
            return NO_SUCH;
        }
        return house.ofPolicy(policy, what);
    }

    public int beside(int person) {
        return isPerson(person) ? house.neighbours(person) : NO_SUCH;
    }

    public int dust(int minute) {
        return isMinute(minute) ? day.dusts[minute] : NO_SUCH;
    }

    // ---- who sneezes when ----

    public int sneezes(int person) {
        return isPerson(person) ? day.sneezed[person] : NO_SUCH;
    }

    public int first(int person) {
        return isPerson(person) ? lowestBit(day.sneezed[person]) : NO_SUCH;
    }

    public int all() {
        return isHouse() ? day.total() : NO_SUCH;
    }

    public int who(int minute) {
        return isMinute(minute) ? day.sneezers[minute] : NO_SUCH;
    }

    public int tickle(int person, int minute) {
        if (!isPerson(person) || !isMinute(minute)) {
            return NO_SUCH;
        }
        return day.tickleAt(person, minute);
    }

    public int itch(int person) {
        if (!isPerson(person)) {
            return NO_SUCH;
        }
        int most = 0;
        for (int m = 0; m < day.minutes; m++) {
            most = Math.max(most, day.tickleAt(person, m));
        }
        return most;
    }

    public int caught(int person) {
        if (!isPerson(person)) {
            return NO_SUCH;
        }
        int together = 0;
        for (int m = 0; m < day.minutes; m++) {
            together += day.cameAt(person, m);
        }
        return together;
    }

    public int gave(int person) {
        if (!isPerson(person)) {
            return NO_SUCH;
        }
        int start = lowestBit(day.sneezed[person]);
        if (start < 1) {
            return 0;
        }
        return day.sneezers[start - 1] & house.neighbours(person);
    }

    public int worst() {
        if (!isHouse()) {
            return NO_SUCH;
        }
        int worst = NONE;
        int most = 0;
        for (int p = 0; p < day.persons; p++) {
            int often = Integer.bitCount(day.sneezed[p]);
            if (often > most) {
                most = often;
                worst = p;
            }
        }
        return worst;
    }

    public int chorus() {
        if (!isHouse()) {
            return NO_SUCH;
        }
        int most = 0;
        for (int m = 0; m < day.minutes; m++) {
            most = Math.max(most, Integer.bitCount(day.sneezers[m]));
        }
        return most;
    }

    public int calm() {
        if (!isHouse()) {
            return NO_SUCH;
        }
        int most = 0;
        int quiet = 0;
        for (int m = 0; m < day.minutes; m++) {
            quiet = day.sneezers[m] == 0 ? quiet + 1 : 0;
            most = Math.max(most, quiet);
        }
        return most;
    }

    public int pause(int person) {
        if (!isPerson(person)) {
            return NO_SUCH;
        }
        int fewest = NONE;
        int latest = NONE;
        for (int m = 0; m < day.minutes; m++) {
            if (hasBit(day.sneezed[person], m)) {
                if (latest != NONE && (fewest == NONE || m - latest < fewest)) {
                    fewest = m - latest;
                }
                latest = m;
            }
        }
        return fewest;
    }

    public int later(int person, int minute) {
        if (!isPerson(person) || !isMinute(minute)) {
            return NO_SUCH;
        }
        return lowestBit(day.sneezed[person] & ~firstMinutes(minute));
    }

    public int covered(int person) {
        return isPerson(person) ? minutesCovered(person) : NO_SUCH;
    }

    public int naked() {
        if (!isHouse()) {
            return NO_SUCH;
        }
        int persons = 0;
        for (int p = 0; p < day.persons; p++) {
            if ((day.sneezed[p] & ~minutesCovered(p)) != 0) {
                persons |= 1 << p;
            }
        }
        return persons;
    }

    public int covers(int minute) {
        if (!isMinute(minute)) {
            return NO_SUCH;
        }
        int policies = 0;
        for (int q = 0; q < house.counts[POLICIES]; q++) {
            if (hasBit(house.window(q), minute)) {
                policies |= 1 << q;
            }
        }
        return policies;
    }

    // ---- were it otherwise ----

    public int dull(int person) {
        if (!isPerson(person)) {
            return NO_SUCH;
        }
        trial.copyFrom(day);
        for (int keen = MOST_KEEN; keen >= 0; keen--) {
            trial.keen[person] = keen;
            trial.liveWhole();
            if (trial.sneezed[person] == 0) {
                return keen;
            }
        }
        return NONE;
    }

    public int bears(int person) {
        if (!isPerson(person)) {
            return NO_SUCH;
        }
        // Who never sneezes tickles by the same amounts whatever he holds: one day without his sneezes tells all.
        trial.copyFrom(day);
        trial.limits[person] = ABOVE_ALL_TICKLE;
        trial.liveWhole();
        int least = 1;
        for (int m = 0; m < trial.minutes; m++) {
            if (!hasBit(trial.held[person], m)) {
                least = Math.max(least, trial.tickleAt(person, m) + 1);
            }
        }
        return least > MOST_HOLDS ? NONE : least;
    }

    public int clean() {
        if (!isHouse()) {
            return NO_SUCH;
        }
        trial.copyFrom(day);
        for (int told = MOST_DUST; told >= 0; told--) {
            for (int m = 0; m < day.minutes; m++) {
                trial.dusts[m] = day.dusts[m] - house.counts[DUST] + told;
            }
            trial.liveWhole();
            if (trial.total() == 0) {
                return told;
            }
        }
        return NONE;
    }

    public int spreads(int person) {
        if (!isPerson(person)) {
            return NO_SUCH;
        }
        trial.copyFrom(day);
        trial.held[person] = firstMinutes(day.minutes);
        trial.liveWhole();
        int persons = 0;
        for (int p = 0; p < day.persons; p++) {
            if (p != person && Integer.bitCount(trial.sneezed[p]) < Integer.bitCount(day.sneezed[p])) {
                persons |= 1 << p;
            }
        }
        return persons;
    }

    public int web(int person) {
        if (!isPerson(person)) {
            return NO_SUCH;
        }
        int reached = 1 << person;
        for (int step = 1; step < MOST_PERSONS; step++) {
            int further = reached;
            for (int p = 0; p < day.persons; p++) {
                if (hasBit(reached, p)) {
                    further |= house.neighbours(p);
                }
            }
            reached = further;
        }
        return reached;
    }

    public int cut(int net) {
        return isNet(net) ? totalWithout(net) : NO_SUCH;
    }

    public int cuts() {
        if (!isHouse()) {
            return NO_SUCH;
        }
        int best = NONE;
        int least = day.total();
        for (int n = 0; n < house.counts[NETS]; n++) {
            int total = totalWithout(n);
            if (total < least) {
                least = total;
                best = n;
            }
        }
        return best;
    }

    private int totalWithout(int net) {
        trial.copyFrom(day);
        trial.without = net;
        trial.liveWhole();
        return trial.total();
    }

    // ---- claims and money ----

    public int claim(int policy) {
        return isPolicy(policy) ? ledgerNow().due[policy] : NO_SUCH;
    }

    public int paid(int policy) {
        return isPolicy(policy) ? ledgerNow().paidAt[policy] : NO_SUCH;
    }

    public int claims() {
        if (!isHouse()) {
            return NO_SUCH;
        }
        Ledger now = ledgerNow();
        int policies = 0;
        for (int q = 0; q < now.policies; q++) {
            if (now.due[q] > 0) {
                policies |= 1 << q;
            }
        }
        return policies;
    }

    public int profit(int policy) {
        if (!isPolicy(policy)) {
            return NO_SUM;
        }
        return house.ofPolicy(policy, PAYS) - ledgerNow().due[policy];
    }

    public int money(int minute) {
        return isMinute(minute) ? ledgerNow().moneyAt(minute) : NO_SUM;
    }

    public int lowest() {
        return isHouse() ? ledgerNow().poorestMinute(day.minutes) : NO_SUCH;
    }

    public int ruin() {
        return isHouse() ? ledgerNow().firstBelow(day.minutes) : NO_SUCH;
    }

    public int dear() {
        if (!isHouse()) {
            return NO_SUCH;
        }
        Ledger now = ledgerNow();
        int dearest = NONE;
        int most = 0;
        for (int q = 0; q < now.policies; q++) {
            int lost = now.due[q] - house.ofPolicy(q, PAYS);
            if (lost > most) {
                most = lost;
                dearest = q;
            }
        }
        return dearest;
    }

    public int reserve() {
        if (!isHouse()) {
            return NO_SUCH;
        }
        // Money never rises in a day: no ruin by its end is no ruin at all.
        int gone = house.counts[MONEY] - ledgerNow().moneyAt(day.minutes - 1);
        int least = Math.max(0, gone);
        return least > MOST_MONEY ? NONE : least;
    }

    public int by(int law) {
        if (!isHouse() || law < 0 || law >= MOST_LAWS) {
            return NO_SUM;
        }
        return moneyInTheEnd(law);
    }

    public int law() {
        if (!isHouse()) {
            return NO_SUCH;
        }
        int best = 0;
        int most = moneyInTheEnd(0);
        for (int l = 1; l < MOST_LAWS; l++) {
            int left = moneyInTheEnd(l);
            if (left > most) {
                most = left;
                best = l;
            }
        }
        return best;
    }

    private int moneyInTheEnd(int law) {
        ledger.reckon(house, day, law);
        return ledger.moneyAt(day.minutes - 1);
    }

    private Ledger ledgerNow() {
        ledger.reckon(house, day, house.counts[LAW]);
        return ledger;
    }

    // ---- the menu ----

    public int takes(int person) {
        return isPerson(person) ? bestOfMenu(person) : NO_SUCH;
    }

    public int gains(int person) {
        if (!isPerson(person)) {
            return NO_SUCH;
        }
        int taken = bestOfMenu(person);
        return taken == NONE ? 0 : gainBy(person, taken);
    }

    public int price(int policy) {
        if (!isPolicy(policy)) {
            return NO_SUCH;
        }
        int least = 0;
        for (int p = 0; p < day.persons; p++) {
            least = Math.max(least, priceFor(p, policy));
        }
        return least;
    }

    private int bestOfMenu(int person) {
        int best = NONE;
        int most = 0;
        for (int q = 0; q < house.counts[POLICIES]; q++) {
            int gain = gainBy(person, q);
            if (gain > most) {
                most = gain;
                best = q;
            }
        }
        return best;
    }

    private int gainBy(int person, int policy) {
        return claimAsIfOf(person, policy) - house.ofPolicy(policy, PAYS);
    }

    private int claimAsIfOf(int person, int policy) {
        return Ledger.claimBy(house, house.counts[LAW], policy, day.sneezed[person], day.held[person]);
    }

    // He leaves it once it gains nothing, no more than one told ahead, or less than one told behind.
    private int priceFor(int person, int policy) {
        int toBeat = 0;
        for (int q = 0; q < house.counts[POLICIES]; q++) {
            int gain = gainBy(person, q);
            if (q < policy) {
                toBeat = Math.max(toBeat, gain);
            } else if (q > policy) {
                toBeat = Math.max(toBeat, gain - 1);
            }
        }
        return Math.max(0, claimAsIfOf(person, policy) - toBeat);
    }

    // ---- holding back, snuff ----

    public int hold(int policy) {
        if (!isPolicy(policy)) {
            return NO_SUCH;
        }
        holding.reckon(house, day, policy);
        return holding.fewest();
    }

    public int holds(int policy) {
        if (!isPolicy(policy)) {
            return NO_SUCH;
        }
        holding.reckon(house, day, policy);
        return holding.minutesHeld();
    }

    public int snuff(int policy) {
        return isPolicy(policy) ? lowestBit(minutesOfFraud(policy)) : NO_SUCH;
    }

    public int frauds(int policy) {
        return isPolicy(policy) ? minutesOfFraud(policy) : NO_SUCH;
    }

    private int minutesOfFraud(int policy) {
        int person = house.ofPolicy(policy, WHOSE);
        int now = claimAsIfOf(person, policy);
        int found = 0;
        trial.copyFrom(day);
        for (int m = 0; m < day.minutes; m++) {
            trial.snuffed[person] = day.snuffed[person] | 1 << m;
            trial.live(m, day.minutes);
            if (Ledger.claimBy(house, house.counts[LAW], policy, trial.sneezed[person], trial.held[person]) > now) {
                found |= 1 << m;
            }
            // The next trial begins behind this minute, which has to be as it was.
            trial.snuffed[person] = day.snuffed[person];
            trial.live(m, m + 1);
        }
        return found;
    }

    // ---- which gust it was ----

    public int which(int slot) {
        int refused = seek(slot);
        return refused != 0 ? refused : suspects.found;
    }

    public int when(int slot) {
        int refused = seek(slot);
        return refused != 0 ? refused : suspects.minutes;
    }

    public int gust(int slot) {
        int refused = seek(slot);
        return refused != 0 ? refused : suspects.firstPair;
    }

    public int ask(int slot) {
        int refused = seek(slot);
        return refused != 0 ? refused : suspects.whomToAsk(day.persons);
    }

    public int leaves(int slot) {
        int refused = seek(slot);
        if (refused != 0) {
            return refused;
        }
        int asked = suspects.whomToAsk(day.persons);
        return asked == NONE ? suspects.found : suspects.atWorst(asked);
    }

    private int seek(int slot) {
        if (!Slots.isSlot(slot) || !isHouse()) {
            return NO_SUCH;
        }
        if (!slots.has(slot)) {
            return HAS_NOTHING;
        }
        if (slots.lengths[slot] % 2 != 0) {
            return NO_SUCH;
        }
        suspects.forget();
        for (int i = 0; i + 1 < slots.lengths[slot]; i += 2) {
            long person = slots.rows[slot][i];
            long minute = slots.rows[slot][i + 1];
            if (person < 0 || person >= day.persons || minute < 0 || minute >= day.minutes) {
                return NO_SUCH;
            }
            suspects.needed[(int) person] |= 1 << (int) minute;
        }
        suspects.seekIn(day, trial);
        return 0;
    }

    // ---- two who hold back ----

    public int rests(int person, int other) {
        if (!isPerson(person) || !isPerson(other) || person == other) {
            return NO_SUCH;
        }
        int pairs = 0;
        for (int x = 0; x < 2; x++) {
            for (int y = 0; y < 2; y++) {
                boolean stays = lossOf(person, other, x, y) <= lossOf(person, other, 1 - x, y);
                if (stays && lossOf(other, person, y, x) <= lossOf(other, person, 1 - y, x)) {
                    pairs |= 1 << (x + 2 * y);
                }
            }
        }
        return pairs;
    }

    public int loses(int person, int other, int x, int y) {
        if (!isPerson(person) || !isPerson(other) || person == other) {
            return NO_SUCH;
        }
        if (x < 0 || x > 1 || y < 0 || y > 1) {
            return NO_SUCH;
        }
        return lossOf(person, other, x, y);
    }

    private int lossOf(int person, int other, int x, int y) {
        trial.copyFrom(day);
        if (x == 1) {
            trial.held[person] = firstMinutes(day.minutes);
        }
        if (y == 1) {
            trial.held[other] = firstMinutes(day.minutes);
        }
        trial.liveWhole();
        int byHolding = x == 1 ? day.minutes / MINUTES_LOST_BY : 0;
        return LOST_BY_SNEEZE * Integer.bitCount(trial.sneezed[person]) + byHolding;
    }

    // ---- puffs by chance, days drawn ----

    public long chance(int person, int minute, int what) {
        if (!isPerson(person) || !isPuffMinute(minute) || what < 0 || what > 1) {
            return NO_SUCH;
        }
        puffs.reckon(house, day, SNEEZES_AT_ALL, person, minute);
        return what == 0 ? puffs.above : puffs.below;
    }

    public long fair(int policy, int minute, int what) {
        if (!isPolicy(policy) || !isPuffMinute(minute) || what < 0 || what > 1) {
            return NO_SUCH;
        }
        puffs.reckon(house, day, CLAIMS, policy, minute);
        return what == 0 ? puffs.above : puffs.below;
    }

    public long risk(int minute, int what) {
        if (!isPuffMinute(minute) || what < 0 || what > 1) {
            return NO_SUCH;
        }
        puffs.reckon(house, day, RUINS, NONE, minute);
        return what == 0 ? puffs.above : puffs.below;
    }

    public int drawn(int seed, int what) {
        if (!isHouse() || !isSeed(seed) || what < 0 || what > 2) {
            return NO_SUCH;
        }
        int puffMinutes = liveDrawn(seed);
        if (what == 0) {
            return puffMinutes;
        }
        if (what == 1) {
            return trial.total();
        }
        ledger.reckon(house, trial, house.counts[LAW]);
        return ledger.firstBelow(trial.minutes);
    }

    public int luck(int seed, int n, int policy) {
        if (!isPolicy(policy) || !isSeed(seed) || n < 1 || n > MOST_DAYS) {
            return NO_SUCH;
        }
        int days = 0;
        for (int i = 0; i < n; i++) {
            liveDrawn(seed + i);
            ledger.reckon(house, trial, house.counts[LAW]);
            if (ledger.due[policy] > 0) {
                days++;
            }
        }
        return days;
    }

    private int liveDrawn(int seed) {
        trial.copyFrom(day);
        int puffMinutes = 0;
        long x = seed;
        for (int m = 0; m < day.minutes; m++) {
            x = (1103515245L * x + 12345L) % 2147483648L;
            if (x / 65536L % 10L < house.counts[ODDS]) {
                puffMinutes |= 1 << m;
                trial.dusts[m] += BY_PUFF;
            }
        }
        trial.liveWhole();
        return puffMinutes;
    }

    // ---- acts, rates, images ----

    public int stifle(int person, int minute) {
        if (!isPerson(person) || !isMinute(minute)) {
            return NO_SUCH;
        }
        if (!house.act(STIFLED, person, minute)) {
            return NOT_NOW;
        }
        liveAnew();
        return day.tickleAt(person, minute);
    }

    public int sniff(int person, int minute) {
        if (!isPerson(person) || !isMinute(minute)) {
            return NO_SUCH;
        }
        if (!house.act(SNUFFED, person, minute)) {
            return NOT_NOW;
        }
        liveAnew();
        return hasBit(day.sneezed[person], minute) ? 1 : 0;
    }

    public int undo() {
        if (!isHouse()) {
            return NO_SUCH;
        }
        if (house.counts[ACTS] < 1) {
            return NOT_NOW;
        }
        house.counts[ACTS]--;
        liveAnew();
        return house.counts[ACTS];
    }

    public int anew() {
        if (!isHouse()) {
            return NO_SUCH;
        }
        int were = house.counts[ACTS];
        house.counts[ACTS] = 0;
        liveAnew();
        return were;
    }

    public int rate(int policy, int n) {
        if (!isPolicy(policy) || n < 0 || n > MOST_PAYS) {
            return NO_SUCH;
        }
        if (house.counts[ACTS] > 0) {
            return NOT_NOW;
        }
        int was = house.ofPolicy(policy, PAYS);
        house.policies[POLICY_NUMBERS * policy + PAYS] = n;
        return was;
    }

    public int count(int what) {
        if (what == TAPE_BYTES) {
            return reader.length;
        }
        if (what == ROWS) {
            return slots.howMany();
        }
        return what < 0 || what >= COUNTS ? NONE : house.counts[what];
    }

    public int image(int k) {
        if (k < 0 || k >= MOST_IMAGES) {
            return NO_SUCH;
        }
        images[k].copyFrom(house);
        kept[k] = true;
        return 0;
    }

    public int back(int k) {
        if (k < 0 || k >= MOST_IMAGES) {
            return NO_SUCH;
        }
        if (!kept[k]) {
            return HAS_NOTHING;
        }
        house.copyFrom(images[k]);
        liveAnew();
        return 0;
    }

    // ---- rows ----

    public int row(int slot, int width, int n) {
        if (!Slots.isSlot(slot) || width < 0 || width > 3 || n > MOST_NUMBERS) {
            return NO_SUCH;
        }
        if (n < 0) {
            return BELOW_NOTHING;
        }
        slots.make(slot, width, n);
        return 0;
    }

    public int write(int slot, int i, long v) {
        if (!Slots.isSlot(slot)) {
            return NO_SUCH;
        }
        if (!slots.has(slot)) {
            return HAS_NOTHING;
        }
        if (i < 0 || i >= slots.lengths[slot]) {
            return BEYOND;
        }
        slots.put(slot, i, v);
        return 0;
    }

    public int paste(int slot, int i, int to, int k, int n) {
        if (!Slots.isSlot(slot) || !Slots.isSlot(to)) {
            return NO_SUCH;
        }
        if (!slots.has(slot) || !slots.has(to)) {
            return HAS_NOTHING;
        }
        if (slots.widths[slot] != slots.widths[to]) {
            return OTHER_WIDTH;
        }
        if (!slots.spans(slot, i, n) || !slots.spans(to, k, n)) {
            return BEYOND;
        }
        System.arraycopy(slots.rows[slot], i, slots.rows[to], k, n);
        return 0;
    }

    // ---- what there is ----

    private void liveAnew() {
        day.tellFrom(house);
        day.liveWhole();
    }

    private boolean isHouse() {
        return house.counts[LINES] > 0;
    }

    private boolean isPerson(int person) {
        return person >= 0 && person < house.counts[PERSONS];
    }

    private boolean isPolicy(int policy) {
        return policy >= 0 && policy < house.counts[POLICIES];
    }

    private boolean isNet(int net) {
        return net >= 0 && net < house.counts[NETS];
    }

    private boolean isMinute(int minute) {
        return minute >= 0 && minute < house.counts[MINUTES];
    }

    private boolean isPuffMinute(int minute) {
        return isMinute(minute) && minute <= LAST_PUFF_MINUTE;
    }

    private static boolean isSeed(int seed) {
        return seed >= 0 && seed <= LAST_SEED;
    }

    private int minutesCovered(int person) {
        int minutes = 0;
        for (int q = 0; q < house.counts[POLICIES]; q++) {
            if (house.ofPolicy(q, WHOSE) == person) {
                minutes |= house.window(q);
            }
        }
        return minutes & firstMinutes(house.counts[MINUTES]);
    }

    private static boolean hasBit(int bits, int i) {
        return (bits >> i & 1) == 1;
    }

    private static int firstMinutes(int n) {
        return (1 << n) - 1;
    }

    private static int lowestBit(int bits) {
        return bits == 0 ? NONE : Integer.bitCount((bits & -bits) - 1);
    }

    /** A house as told, with the acts done in it; there is none where it has no lines. */
    private static final class House {
        final int[] counts = new int[COUNTS];
        final int[] noses = new int[2 * MOST_PERSONS];
        final int[] gusts = new int[2 * MOST_GUSTS];
        final int[] nets = new int[2 * MOST_NETS];
        final int[] policies = new int[POLICY_NUMBERS * MOST_POLICIES];
        final int[] acts = new int[ACT_NUMBERS * MOST_ACTS];

        void clear() {
            Arrays.fill(counts, 0);
        }

        void copyFrom(House other) {
            System.arraycopy(other.counts, 0, counts, 0, counts.length);
            System.arraycopy(other.noses, 0, noses, 0, noses.length);
            System.arraycopy(other.gusts, 0, gusts, 0, gusts.length);
            System.arraycopy(other.nets, 0, nets, 0, nets.length);
            System.arraycopy(other.policies, 0, policies, 0, policies.length);
            System.arraycopy(other.acts, 0, acts, 0, acts.length);
        }

        int ofPolicy(int policy, int what) {
            return policies[POLICY_NUMBERS * policy + what];
        }

        /** The minutes of a policy as bits, those behind the house's last minute too. */
        int window(int policy) {
            int base = POLICY_NUMBERS * policy;
            return (2 << policies[base + TO]) - (1 << policies[base + FROM]);
        }

        int gustMinutes() {
            int minutes = 0;
            for (int g = 0; g < counts[GUSTS]; g++) {
                minutes |= 1 << gusts[2 * g + 1];
            }
            return minutes;
        }

        int neighbours(int person) {
            int persons = 0;
            for (int n = 0; n < counts[NETS]; n++) {
                if (nets[2 * n] == person) {
                    persons |= 1 << nets[2 * n + 1];
                }
                if (nets[2 * n + 1] == person) {
                    persons |= 1 << nets[2 * n];
                }
            }
            return persons;
        }

        boolean act(int kind, int person, int minute) {
            int n = counts[ACTS];
            if (n >= MOST_ACTS) {
                return false;
            }
            acts[ACT_NUMBERS * n] = kind;
            acts[ACT_NUMBERS * n + 1] = person;
            acts[ACT_NUMBERS * n + 2] = minute;
            counts[ACTS] = n + 1;
            return true;
        }

        int minutesOfActs(int kind, int person) {
            int minutes = 0;
            for (int i = 0; i < counts[ACTS]; i++) {
                if (acts[ACT_NUMBERS * i] == kind && acts[ACT_NUMBERS * i + 1] == person) {
                    minutes |= 1 << acts[ACT_NUMBERS * i + 2];
                }
            }
            return minutes;
        }
    }

    /** The tape, and how it is read as a house: a fault stands, and what is read behind it goes nowhere. */
    private static final class Reader {
        private static final int AT_END = 0;
        private static final int WORD = 1;
        private static final int NUMBER = 2;
        private static final int SIGN = 3;
        private static final int BLANK = 4;
        private static final int STRANGE = 5;
        // Far above every bound, and far from where another digit would wrap around.
        private static final int TOO_MUCH = 1000000;

        final int[] bytes = new int[MOST_BYTES];
        int length;
        int fault;
        int place = NONE;
        private int at;
        private int stop;
        private int kind;
        private House told;

        void put(int number) {
            for (int shift = 24; shift >= 0 && length < MOST_BYTES; shift -= 8) {
                bytes[length] = number >> shift & 255;
                length++;
            }
        }

        void read(House into) {
            told = into;
            told.clear();
            fault = 0;
            place = NONE;
            stop = 0;
            step();
            for (int line = 0; line < MOST_BYTES && fault == 0 && kind != AT_END; line++) {
                if (line == 0) {
                    readHouse();
                } else {
                    readLine();
                }
                told.counts[LINES] = line + 1;
            }
        }

        private void readHouse() {
            word("house");
            word("minutes");
            told.counts[MINUTES] = number(1, MOST_MINUTES, NONE);
            word("dust");
            told.counts[DUST] = number(0, MOST_DUST, NONE);
            word("law");
            told.counts[LAW] = number(0, MOST_LAWS - 1, NONE);
            word("money");
            told.counts[MONEY] = number(0, MOST_MONEY, NONE);
            word("odds");
            told.counts[ODDS] = number(0, 10, NONE);
            sign();
        }

        private void readLine() {
            if (isWord("nose")) {
                readNose(told.counts[PERSONS]);
            } else if (isWord("gust")) {
                readGust(told.counts[GUSTS]);
            } else if (isWord("net")) {
                readNet(told.counts[NETS]);
            } else if (isWord("policy")) {
                readPolicy(told.counts[POLICIES]);
            } else {
                blame(1);
            }
        }

        private void readNose(int n) {
            if (n >= MOST_PERSONS) {
                blame(3);
                return;
            }
            word("nose");
            told.noses[2 * n] = number(0, MOST_KEEN, NONE);
            word("holds");
            told.noses[2 * n + 1] = number(1, MOST_HOLDS, NONE);
            sign();
            told.counts[PERSONS] = n + 1;
        }

        private void readGust(int n) {
            if (n >= MOST_GUSTS) {
                blame(3);
                return;
            }
            word("gust");
            told.gusts[2 * n] = number(1, MOST_GUST, NONE);
            word("at");
            told.gusts[2 * n + 1] = number(0, MOST_MINUTES - 1, NONE);
            sign();
            told.counts[GUSTS] = n + 1;
        }

        private void readNet(int n) {
            if (n >= MOST_NETS) {
                blame(3);
                return;
            }
            word("net");
            int one = number(0, told.counts[PERSONS] - 1, NONE);
            told.nets[2 * n] = one;
            told.nets[2 * n + 1] = number(0, told.counts[PERSONS] - 1, one);
            sign();
            told.counts[NETS] = n + 1;
        }

        private void readPolicy(int n) {
            if (n >= MOST_POLICIES) {
                blame(3);
                return;
            }
            int base = POLICY_NUMBERS * n;
            word("policy");
            told.policies[base + WHOSE] = number(0, told.counts[PERSONS] - 1, NONE);
            word("from");
            int from = number(0, MOST_MINUTES - 1, NONE);
            told.policies[base + FROM] = from;
            word("to");
            told.policies[base + TO] = number(from, MOST_MINUTES - 1, NONE);
            word("sum");
            told.policies[base + SUM] = number(1, 99, NONE);
            word("pays");
            told.policies[base + PAYS] = number(0, MOST_PAYS, NONE);
            sign();
            told.counts[POLICIES] = n + 1;
        }

        private void word(String text) {
            if (isWord(text)) {
                step();
            } else {
                blame(1);
            }
        }

        private void sign() {
            if (kind == SIGN) {
                step();
            } else {
                blame(1);
            }
        }

        private int number(int low, int high, int but) {
            if (kind != NUMBER) {
                blame(1);
                return 0;
            }
            int value = value();
            if (value < low || value > high || value == but) {
                blame(2);
            }
            step();
            return value;
        }

        private int value() {
            int value = 0;
            for (int i = at; i < stop; i++) {
                value = Math.min(TOO_MUCH, 10 * value + bytes[i] - '0');
            }
            return value;
        }

        private boolean isWord(String text) {
            if (kind != WORD || stop - at != text.length()) {
                return false;
            }
            for (int i = at; i < stop; i++) {
                if (bytes[i] != text.charAt(i - at)) {
                    return false;
                }
            }
            return true;
        }

        private void blame(int what) {
            if (fault == 0) {
                fault = what;
                place = at;
            }
        }

        private void step() {
            at = stop;
            while (at < length && kindAt(at) == BLANK) {
                at++;
            }
            kind = kindAt(at);
            stop = Math.min(at + 1, length);
            while ((kind == WORD || kind == NUMBER) && stop < length && kindAt(stop) == kind) {
                stop++;
            }
        }

        private int kindAt(int i) {
            if (i >= length) {
                return AT_END;
            }
            int b = bytes[i];
            if (b == 32 || b == 10) {
                return BLANK;
            }
            if (b >= 'a' && b <= 'z') {
                return WORD;
            }
            if (b >= '0' && b <= '9') {
                return NUMBER;
            }
            return b == ';' ? SIGN : STRANGE;
        }
    }

    /** A day lived minute by minute: what holds in it, and who sneezes by that. */
    private static final class Day {
        int minutes;
        int persons;
        int netCount;
        int without = NONE;
        final int[] dusts = new int[MOST_MINUTES];
        final int[] keen = new int[MOST_PERSONS];
        final int[] limits = new int[MOST_PERSONS];
        final int[] held = new int[MOST_PERSONS];
        final int[] snuffed = new int[MOST_PERSONS];
        final int[] nets = new int[2 * MOST_NETS];
        final int[] tickles = new int[MOST_PERSONS * MOST_MINUTES];
        final int[] came = new int[MOST_PERSONS * MOST_MINUTES];
        final int[] sneezers = new int[MOST_MINUTES];
        final int[] sneezed = new int[MOST_PERSONS];

        void tellFrom(House house) {
            minutes = house.counts[MINUTES];
            persons = house.counts[PERSONS];
            netCount = house.counts[NETS];
            without = NONE;
            System.arraycopy(house.nets, 0, nets, 0, nets.length);
            for (int p = 0; p < persons; p++) {
                keen[p] = house.noses[2 * p];
                limits[p] = house.noses[2 * p + 1];
                held[p] = house.minutesOfActs(STIFLED, p);
                snuffed[p] = house.minutesOfActs(SNUFFED, p);
            }
            Arrays.fill(dusts, house.counts[DUST]);
            for (int g = 0; g < house.counts[GUSTS]; g++) {
                dusts[house.gusts[2 * g + 1]] += house.gusts[2 * g];
            }
        }

        void copyFrom(Day other) {
            minutes = other.minutes;
            persons = other.persons;
            netCount = other.netCount;
            without = other.without;
            System.arraycopy(other.dusts, 0, dusts, 0, dusts.length);
            System.arraycopy(other.keen, 0, keen, 0, keen.length);
            System.arraycopy(other.limits, 0, limits, 0, limits.length);
            System.arraycopy(other.held, 0, held, 0, held.length);
            System.arraycopy(other.snuffed, 0, snuffed, 0, snuffed.length);
            System.arraycopy(other.nets, 0, nets, 0, nets.length);
            System.arraycopy(other.tickles, 0, tickles, 0, tickles.length);
            System.arraycopy(other.came, 0, came, 0, came.length);
            System.arraycopy(other.sneezers, 0, sneezers, 0, sneezers.length);
            System.arraycopy(other.sneezed, 0, sneezed, 0, sneezed.length);
        }

        void liveWhole() {
            live(0, minutes);
        }

        /** Lives the minutes from .. to less 1, those ahead being as they are, those behind unlived. */
        void live(int from, int to) {
            for (int p = 0; p < persons; p++) {
                sneezed[p] &= firstMinutes(from);
            }
            for (int m = from; m < to && m < minutes; m++) {
                tickleByNets(m);
                liveMinute(m);
            }
        }

        private void tickleByNets(int m) {
            int row = MOST_PERSONS * m;
            for (int p = 0; p < persons; p++) {
                came[row + p] = 0;
            }
            int ahead = m == 0 ? 0 : sneezers[m - 1];
            if (ahead == 0) {
                return;
            }
            for (int n = 0; n < netCount; n++) {
                if (n != without) {
                    int one = nets[2 * n];
                    int other = nets[2 * n + 1];
                    came[row + one] += hasBit(ahead, other) ? BY_NET : 0;
                    came[row + other] += hasBit(ahead, one) ? BY_NET : 0;
                }
            }
        }

        private void liveMinute(int m) {
            int row = MOST_PERSONS * m;
            int sneezing = 0;
            for (int p = 0; p < persons; p++) {
                int tickling = comesTo(p, m) + (m == 0 ? 0 : tickles[row - MOST_PERSONS + p]);
                if (tickling >= limits[p] && !hasBit(held[p], m)) {
                    sneezing |= 1 << p;
                    sneezed[p] |= 1 << m;
                    tickling = 0;
                }
                tickles[row + p] = tickling;
            }
            sneezers[m] = sneezing;
        }

        int comesTo(int person, int minute) {
            int bySnuff = hasBit(snuffed[person], minute) ? BY_SNUFF : 0;
            return keen[person] * dusts[minute] + cameAt(person, minute) + bySnuff;
        }

        int cameAt(int person, int minute) {
            return came[MOST_PERSONS * minute + person];
        }

        int tickleAt(int person, int minute) {
            return tickles[MOST_PERSONS * minute + person];
        }

        int total() {
            int often = 0;
            for (int p = 0; p < persons; p++) {
                often += Integer.bitCount(sneezed[p]);
            }
            return often;
        }
    }

    /** What is claimed in a day by a law, when it is paid, and the money that is left. */
    private static final class Ledger {
        final int[] due = new int[MOST_POLICIES];
        final int[] paidAt = new int[MOST_POLICIES];
        int policies;
        private int atFirst;

        void reckon(House house, Day day, int law) {
            policies = house.counts[POLICIES];
            atFirst = house.counts[MONEY];
            for (int q = 0; q < policies; q++) {
                int person = house.ofPolicy(q, WHOSE);
                int sneezed = day.sneezed[person];
                atFirst += house.ofPolicy(q, PAYS);
                due[q] = claimBy(house, law, q, sneezed, day.held[person]);
                paidAt[q] = lowestBit(counting(house, law, q, sneezed));
            }
        }

        static int counting(House house, int law, int policy, int sneezed) {
            int within = sneezed & house.window(policy);
            return law == 1 ? within & ~house.gustMinutes() : within;
        }

        static int claimBy(House house, int law, int policy, int sneezed, int held) {
            int counting = counting(house, law, policy, sneezed);
            int sum = house.ofPolicy(policy, SUM);
            if (counting == 0) {
                return 0;
            }
            if (law == 2) {
                return sum * Math.min(3, Integer.bitCount(counting));
            }
            int aheadOfFirst = firstMinutes(lowestBit(counting)) & house.window(policy);
            return law == 3 && (held & aheadOfFirst) != 0 ? sum / 2 : sum;
        }

        int moneyAt(int minute) {
            int money = atFirst;
            for (int q = 0; q < policies; q++) {
                if (paidAt[q] != NONE && paidAt[q] <= minute) {
                    money -= due[q];
                }
            }
            return money;
        }

        int firstBelow(int minutes) {
            for (int m = 0; m < minutes; m++) {
                if (moneyAt(m) < 0) {
                    return m;
                }
            }
            return NONE;
        }

        int poorestMinute(int minutes) {
            int poorest = 0;
            for (int m = 1; m < minutes; m++) {
                if (moneyAt(m) < moneyAt(poorest)) {
                    poorest = m;
                }
            }
            return poorest;
        }
    }

    /**
     * The fewest minutes to hold back in. A set of minutes is one long: how many, then which as bits;
     * so the least long is the least set of the fewest, and sets without a minute in common add up.
     */
    private static final class Holding {
        private static final long FAR = 1L << 62;
        private static final long ONE = 1L << MOST_MINUTES;

        // Of each minute the least set by which he begins it with no tickle.
        private final long[] fresh = new long[MOST_MINUTES + 1];
        private long best;

        void reckon(House house, Day day, int policy) {
            int from = house.ofPolicy(policy, FROM);
            int last = Math.min(house.ofPolicy(policy, TO), day.minutes - 1);
            best = 0;
            if (from > last) {
                return;
            }
            best = FAR;
            Arrays.fill(fresh, FAR);
            fresh[0] = 0;
            for (int start = 0; start <= from; start++) {
                if (fresh[start] != FAR) {
                    goOn(day, house.ofPolicy(policy, WHOSE), start, from, last);
                }
            }
        }

        // From the minute where he tickles enough he holds back in each, or sneezes ahead of the policy.
        private void goOn(Day day, int person, int start, int from, int last) {
            long set = fresh[start];
            int tickling = 0;
            for (int m = start; m <= last; m++) {
                tickling += day.comesTo(person, m);
                if (tickling >= day.limits[person]) {
                    if (m < from) {
                        fresh[m + 1] = Math.min(fresh[m + 1], set);
                    }
                    set += ONE + (1L << m);
                }
            }
            best = Math.min(best, set);
        }

        int fewest() {
            return (int) (best / ONE);
        }

        int minutesHeld() {
            return (int) (best % ONE);
        }
    }

    /** Gusts besides those told by which all who are told sneeze so. */
    private static final class Suspects {
        private static final int OFTEN = MOST_MINUTES + 1;

        final int[] needed = new int[MOST_PERSONS];
        int found;
        int minutes;
        int firstPair;
        // By person and how often he sneezes, how many of the gusts found.
        private final int[] tally = new int[MOST_PERSONS * OFTEN];

        void forget() {
            Arrays.fill(needed, 0);
            Arrays.fill(tally, 0);
            found = 0;
            minutes = 0;
            firstPair = NONE;
        }

        void seekIn(Day day, Day trial) {
            trial.copyFrom(day);
            for (int m = 0; m < day.minutes; m++) {
                // No later gust changes what is missing ahead of it.
                if (!meets(trial, firstMinutes(m))) {
                    return;
                }
                for (int g = 1; g <= MOST_GUST; g++) {
                    trial.dusts[m] = day.dusts[m] + g;
                    trial.live(m, day.minutes);
                    if (meets(trial, firstMinutes(day.minutes))) {
                        note(trial, m, g);
                    }
                }
                trial.dusts[m] = day.dusts[m];
                trial.live(m, m + 1);
            }
        }

        private boolean meets(Day trial, int among) {
            for (int p = 0; p < trial.persons; p++) {
                if ((needed[p] & among & ~trial.sneezed[p]) != 0) {
                    return false;
                }
            }
            return true;
        }

        private void note(Day trial, int minute, int gust) {
            if (found == 0) {
                firstPair = 10 * minute + gust;
            }
            found++;
            minutes |= 1 << minute;
            for (int p = 0; p < trial.persons; p++) {
                tally[OFTEN * p + Integer.bitCount(trial.sneezed[p])]++;
            }
        }

        int atWorst(int person) {
            int most = 0;
            for (int often = 0; often < OFTEN; often++) {
                most = Math.max(most, tally[OFTEN * person + often]);
            }
            return most;
        }

        int whomToAsk(int persons) {
            int best = NONE;
            int fewest = found;
            for (int p = 0; p < persons; p++) {
                int left = atWorst(p);
                if (left < fewest) {
                    fewest = left;
                    best = p;
                }
            }
            return best;
        }
    }

    /** The mean over all puffs in the first minutes, as a fraction in lowest terms; there are none behind these. */
    private static final class Puffs {
        long above;
        long below;
        private final long[] weights = new long[LAST_PUFF_MINUTE + 2];
        private final Day trial = new Day();
        private final Ledger ledger = new Ledger();

        void reckon(House house, Day day, int kind, int index, int minute) {
            int n = minute + 1;
            weigh(n, house.counts[ODDS]);
            trial.copyFrom(day);
            above = 0;
            for (int puffs = 0; puffs < 1 << n; puffs++) {
                // The first minute is the highest bit: what lies ahead of the first that changes stays lived.
                int from = puffs == 0 ? 0 : n - 1 - lowestBit(puffs);
                for (int m = from; m < n; m++) {
                    trial.dusts[m] = day.dusts[m] + (hasBit(puffs, n - 1 - m) ? BY_PUFF : 0);
                }
                // A claim that ruins may be paid ahead of sneezes that count for it: ruin is known by the whole day.
                trial.live(from, kind == RUINS ? day.minutes : n);
                above += weights[Integer.bitCount(puffs)] * worth(house, kind, index, n);
            }
            below = 1;
            for (int m = 0; m < n; m++) {
                below *= 10;
            }
            lower();
        }

        private void weigh(int n, int odds) {
            for (int k = 0; k <= n && k < weights.length; k++) {
                long weight = 1;
                for (int m = 0; m < n; m++) {
                    weight *= m < k ? odds : 10 - odds;
                }
                weights[k] = weight;
            }
        }

        private long worth(House house, int kind, int index, int n) {
            if (kind == SNEEZES_AT_ALL) {
                return trial.sneezed[index] != 0 ? 1 : 0;
            }
            ledger.reckon(house, trial, house.counts[LAW]);
            if (kind == CLAIMS) {
                return ledger.due[index];
            }
            return ledger.firstBelow(n) != NONE ? 1 : 0;
        }

        private void lower() {
            long a = above;
            long b = below;
            // Two steps at least halve the greater: a hundred are plenty.
            for (int i = 0; i < 100 && a != 0; i++) {
                long rest = b % a;
                b = a;
                a = rest;
            }
            if (b > 1) {
                above /= b;
                below /= b;
            }
        }
    }

    /** Four rows of numbers, or nothing. */
    private static final class Slots {
        final long[][] rows = new long[MOST_SLOTS][MOST_NUMBERS];
        final int[] widths = new int[MOST_SLOTS];
        final int[] lengths = new int[MOST_SLOTS];

        Slots() {
            Arrays.fill(lengths, NONE);
        }

        static boolean isSlot(int slot) {
            return slot >= 0 && slot < MOST_SLOTS;
        }

        boolean has(int slot) {
            return lengths[slot] != NONE;
        }

        int howMany() {
            int many = 0;
            for (int s = 0; s < MOST_SLOTS; s++) {
                many += has(s) ? 1 : 0;
            }
            return many;
        }

        void make(int slot, int width, int n) {
            widths[slot] = width;
            lengths[slot] = n;
            Arrays.fill(rows[slot], 0L);
        }

        void put(int slot, int i, long v) {
            switch (widths[slot]) {
                case 0:
                    rows[slot][i] = (byte) v;
                    break;
                case 1:
                    rows[slot][i] = (short) v;
                    break;
                case 2:
                    rows[slot][i] = (int) v;
                    break;
                default:
                    rows[slot][i] = v;
            }
        }

        boolean spans(int slot, int i, int n) {
            return i >= 0 && n >= 0 && i <= lengths[slot] && n <= lengths[slot] - i;
        }
    }
}
