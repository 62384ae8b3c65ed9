import java.util.Arrays;

/**
 * A small harbour: berths, boats, visitors' stays, a hoist, a winter's shed, and bills by rules
 * that are texts. What each call promises stands in the project's document.
 */
public final class SmallHarbour {
    public static final int NONE = -1;

    private static final int SPENT = -2;
    private static final int TOO_MANY_STAYS = -3;

    private static final int DAYS = 400;
    private static final int MOST_LEVELS = 30;
    private static final int HIGHEST_LEVEL = 40;
    private static final int MOST_BERTHS = 10;
    private static final int MOST_BOATS = 30;
    private static final int SHORTEST = 10;
    private static final int LONGEST = 400;
    private static final int DEEPEST = 60;
    private static final int HEAVIEST = 500;
    private static final int MOST_SPANS = 60;
    private static final int MOST_STAYS = 40;
    private static final int MOST_IN_WALK = 12;
    private static final int MOST_TRIES = 50000;
    private static final int MOST_LIFTS = 40;
    private static final int MOST_MINUTES = 600;
    private static final int MOST_LANES = 4;
    private static final int LONGEST_LANE = 2000;
    private static final int MOST_IN_SHED = 9;
    private static final int MOST_BYTES = 200;
    private static final int BYTES_OF_FEED = 20;
    private static final int MOST_RULES = 8;
    private static final int MOST_TOKENS = 60;
    private static final int MOST_OPEN = 10;
    private static final int LARGEST_NUMBER = 99999;
    private static final int PARTS_OF_MOVE = 3;
    private static final int FIRST_NIGHT_ASKED = 100;

    private final Tide tide;
    private final Berths berths;
    private final Boats boats;
    private final Spans spans;
    private final Stays stays;
    private final Walk walk;
    private final Hoist crane;
    private final Shed barn;
    private final Tape tape;
    private final Reader reader;
    private final Rules rules;
    private final int[][] kept;
    private int keptCount;

    public SmallHarbour() {
        tide = new Tide();
        berths = new Berths();
        boats = new Boats();
        spans = new Spans();
        stays = new Stays();
        walk = new Walk();
        crane = new Hoist();
        barn = new Shed();
        tape = new Tape();
        reader = new Reader(tape);
        rules = new Rules();
        kept = new int[PARTS_OF_MOVE][MOST_IN_WALK];
        keptCount = 0;
    }

    // ---- levels, berths, boats ----

    public boolean levels(int n) {
        return !isTideFixed() && tide.restart(n);
    }

    public boolean level(int k, int v) {
        return !isTideFixed() && tide.put(k, v);
    }

    public int berth(int length, int depth) {
        return berths.add(length, depth);
    }

    public int boat(int length, int draught, int weight, int home) {
        if (!isWithin(length, SHORTEST, LONGEST) || !isWithin(draught, 0, DEEPEST)) {
            return NONE;
        }
        if (!isWithin(weight, 1, HEAVIEST) || boats.count >= MOST_BOATS) {
            return NONE;
        }
        if (home == NONE) {
            return boats.add(length, draught, weight, NONE);
        }
        if (!canBeHome(home, length, draught)) {
            return NONE;
        }
        int boat = boats.add(length, draught, weight, home);
        berths.holder[home] = boat;
        return boat;
    }

    public int boatOf(int boat, int what) {
        if (!boats.has(boat)) {
            return NONE;
        }
        switch (what) {
            case 0:
                return boats.length[boat];
            case 1:
                return boats.draught[boat];
            case 2:
                return boats.weight[boat];
            case 3:
                return boats.home[boat];
            default:
                return what < FIRST_NIGHT_ASKED ? NONE : berthOf(boat, what - FIRST_NIGHT_ASKED);
        }
    }

    public int fits(int boat, int berth, int day) {
        if (!boats.has(boat) || !berths.has(berth) || !isDay(day)) {
            return NONE;
        }
        return fitsAllNights(boat, berth, day, day + 1) ? 1 : 0;
    }

    public int lies(int berth, int day) {
        if (!berths.has(berth) || !isDay(day)) {
            return NONE;
        }
        if (isOwnerThere(berth, day, day + 1)) {
            return berths.holder[berth];
        }
        int stay = stays.atBerth(berth, day, day + 1);
        return stay == NONE ? NONE : stays.boat[stay];
    }

    // ---- spans away, stays, home early ----

    public boolean away(int boat, int from, int to) {
        if (!boats.has(boat) || boats.home[boat] == NONE || !areNights(from, to)) {
            return false;
        }
        return spans.nightsAway(boat, from, to) == 0 && spans.add(boat, from, to);
    }

    public int stay(int boat, int from, int to) {
        if (!boats.has(boat) || boats.home[boat] != NONE || !areNights(from, to)) {
            return NONE;
        }
        if (stays.ofBoat(boat, from, to) != NONE) {
            return NONE;
        }
        for (int berth = 0; berth < berths.count; berth++) {
            if (canLie(boat, berth, from, to) && stays.atBerth(berth, from, to) == NONE) {
                return stays.add(boat, berth, from, to);
            }
        }
        return NONE;
    }

    public boolean leaves(int stay, int day) {
        if (!stays.has(stay) || day <= stays.from[stay] || day >= stays.to[stay]) {
            return false;
        }
        stays.to[stay] = day;
        return true;
    }

    public int home(int boat, int day) {
        int span = spans.find(boat, day);
        if (span == NONE) {
            return NONE;
        }
        int end = spans.to[span];
        // The span is shortened ahead of the walk, which so meets the boat at home from that day on.
        spans.to[span] = day;
        int answer = findRoom(day);
        if (answer < 0) {
            spans.to[span] = end;
        } else if (spans.from[span] == day) {
            spans.remove(span);
        }
        return answer;
    }

    public int moved(int i, int part) {
        if (i < 0 || i >= keptCount || part < 0 || part >= PARTS_OF_MOVE) {
            return NONE;
        }
        return kept[part][i];
    }

    public int stayOf(int s, int what) {
        if (!stays.has(s)) {
            return NONE;
        }
        switch (what) {
            case 0:
                return stays.boat[s];
            case 1:
                return stays.berth[s];
            case 2:
                return stays.from[s];
            case 3:
                return stays.to[s];
            case 4:
                return billOf(s);
            default:
                return NONE;
        }
    }

    // ---- the hoist ----

    public boolean hoist(int level, int weight, int minutes) {
        return crane.set(level, weight, minutes);
    }

    public boolean broken(int day, boolean it) {
        if (!isDay(day)) {
            return false;
        }
        crane.isBroken[day] = it;
        return true;
    }

    public int lift(int boat, int day, int minutes) {
        if (!boats.has(boat) || !isDay(day) || !isWithin(minutes, 1, MOST_MINUTES)) {
            return NONE;
        }
        return crane.add(boats.weight[boat], day, minutes);
    }

    public int lifted(int i) {
        return crane.dayOf(i, tide);
    }

    // ---- the shed ----

    public boolean shed(int lanes, int length) {
        return barn.restart(lanes, length);
    }

    public int winter(int boat, int out) {
        if (!boats.has(boat) || !isDay(out)) {
            return NONE;
        }
        return barn.add(boat, boats.length[boat], out);
    }

    public int moves() {
        return barn.isFilled() ? barn.fewest : NONE;
    }

    public int lane(int i) {
        return i < 0 || i >= barn.count || !barn.isFilled() ? NONE : barn.best[i];
    }

    // ---- rules and bills ----

    public int feed(int a, int b, int c, int d, int e) {
        if (tape.count + BYTES_OF_FEED > MOST_BYTES) {
            return NONE;
        }
        tape.addFour(a);
        tape.addFour(b);
        tape.addFour(c);
        tape.addFour(d);
        tape.addFour(e);
        return tape.count;
    }

    public int end(int n) {
        if (n < 0 || n > tape.count) {
            return NONE;
        }
        tape.count = n;
        return n;
    }

    public int rule(int day) {
        if (!isDay(day) || rules.count >= MOST_RULES) {
            return NONE;
        }
        boolean isGood = reader.readTape();
        tape.count = 0;
        return isGood ? rules.add(day, reader.code, reader.size) : NONE;
    }

    public int fault(int what) {
        switch (what) {
            case 0:
                return reader.flaw;
            case 1:
                return reader.place;
            default:
                return NONE;
        }
    }

    public int says(int rule, int f, int n, int d) {
        return rules.reckon(rule, f, n, d);
    }

    public int owes(int boat) {
        int sum = 0;
        for (int s = 0; s < stays.count; s++) {
            if (stays.boat[s] == boat) {
                sum += billOf(s);
            }
        }
        return sum;
    }

    public int about(int what) {
        switch (what) {
            case 0:
                return berths.count;
            case 1:
                return boats.count;
            case 2:
                return stays.count;
            case 3:
                return spans.count;
            case 4:
                return crane.count;
            case 5:
                return barn.count;
            case 6:
                return rules.count;
            case 7:
                return tape.count;
            case 8:
                return keptCount;
            default:
                return NONE;
        }
    }

    // ---- what the calls rest on ----

    private static boolean isWithin(int x, int low, int high) {
        return x >= low && x <= high;
    }

    private static boolean isDay(int day) {
        return day >= 0 && day < DAYS;
    }

    private static boolean areNights(int from, int to) {
        return from >= 0 && from < to && to <= DAYS;
    }

    // Stays and homes were given by the levels as they are: these must not change under them.
    private boolean isTideFixed() {
        return stays.count > 0 || berths.isAnyHeld();
    }

    private boolean canBeHome(int berth, int length, int draught) {
        if (!berths.has(berth) || berths.holder[berth] != NONE) {
            return false;
        }
        return stays.atBerth(berth, 0, DAYS) == NONE
            && berths.takes(berth, length, draught, tide.lowest(0, DAYS));
    }

    private boolean fitsAllNights(int boat, int berth, int from, int to) {
        return berths.takes(berth, boats.length[boat], boats.draught[boat], tide.lowest(from, to));
    }

    private boolean isOwnerThere(int berth, int from, int to) {
        int owner = berths.holder[berth];
        return owner != NONE && spans.nightsAway(owner, from, to) < to - from;
    }

    private boolean canLie(int boat, int berth, int from, int to) {
        return fitsAllNights(boat, berth, from, to) && !isOwnerThere(berth, from, to);
    }

    private int berthOf(int boat, int day) {
        if (!isDay(day)) {
            return NONE;
        }
        int home = boats.home[boat];
        if (home != NONE) {
            return spans.find(boat, day) == NONE ? home : NONE;
        }
        int stay = stays.ofBoat(boat, day, day + 1);
        return stay == NONE ? NONE : stays.berth[stay];
    }

    private int findRoom(int day) {
        if (!lineUp(day)) {
            return SPENT;
        }
        walk.search();
        if (walk.isSpent()) {
            return SPENT;
        }
        if (!walk.isFound()) {
            return NONE;
        }
        if (stays.count + walk.movedFromAhead(day) > MOST_STAYS) {
            return TOO_MANY_STAYS;
        }
        carryOut(day);
        return keptCount;
    }

    /** Tells the walk every stay with a night from a day on; false if they are too many for it. */
    private boolean lineUp(int day) {
        walk.restart(berths.count);
        for (int s = 0; s < stays.count; s++) {
            if (stays.to[s] <= day) {
                continue;
            }
            if (walk.size >= MOST_IN_WALK) {
                return false;
            }
            int from = Math.max(stays.from[s], day);
            walk.add(s, stays.berth[s], stays.from[s], stays.to[s]);
            for (int b = 0; b < berths.count; b++) {
                if (canLie(stays.boat[s], b, from, stays.to[s])) {
                    walk.allow(b);
                }
            }
        }
        return true;
    }

    private void carryOut(int day) {
        keptCount = 0;
        for (int k = 0; k < walk.size; k++) {
            if (!walk.isMoved(k)) {
                continue;
            }
            int former = walk.stay[k];
            int now = former;
            if (stays.from[former] < day) {
                now = stays.add(stays.boat[former], walk.best[k], day, stays.to[former]);
                stays.to[former] = day;
            } else {
                stays.berth[former] = walk.best[k];
            }
            kept[0][keptCount] = former;
            kept[1][keptCount] = walk.best[k];
            kept[2][keptCount] = now;
            keptCount++;
        }
    }

    private int billOf(int s) {
        int first = stays.from[s];
        int nights = stays.to[s] - first;
        return rules.reckon(rules.inForce(first), boats.length[stays.boat[s]], nights, first);
    }

    /** The low water of every day: a row of levels, again and again. */
    private static final class Tide {
        private final int[] row = new int[MOST_LEVELS];
        private int count = 1;

        boolean restart(int n) {
            if (n < 1 || n > MOST_LEVELS) {
                return false;
            }
            Arrays.fill(row, 0);
            count = n;
            return true;
        }

        boolean put(int k, int v) {
            if (k < 0 || k >= count || v < 0 || v > HIGHEST_LEVEL) {
                return false;
            }
            row[k] = v;
            return true;
        }

        int on(int day) {
            return day < 0 || count < 1 ? 0 : row[day % count];
        }

        // The row comes again, so no more than one round of it need be looked at.
        int lowest(int from, int to) {
            int last = Math.min(to, from + count);
            int low = HIGHEST_LEVEL;
            for (int day = from; day < last; day++) {
                low = Math.min(low, on(day));
            }
            return low;
        }
    }

    /** Berths, each with the boat whose home it is. */
    private static final class Berths {
        final int[] length = new int[MOST_BERTHS];
        final int[] depth = new int[MOST_BERTHS];
        final int[] holder = new int[MOST_BERTHS];
        int count = 0;

        boolean has(int berth) {
            return berth >= 0 && berth < count;
        }

        int add(int itsLength, int itsDepth) {
            if (!isWithin(itsLength, SHORTEST, LONGEST) || !isWithin(itsDepth, 0, DEEPEST)) {
                return NONE;
            }
            if (count >= MOST_BERTHS) {
                return NONE;
            }
            length[count] = itsLength;
            depth[count] = itsDepth;
            holder[count] = NONE;
            return count++;
        }

        boolean isAnyHeld() {
            for (int b = 0; b < count; b++) {
                if (holder[b] != NONE) {
                    return true;
                }
            }
            return false;
        }

        boolean takes(int berth, int itsLength, int draught, int level) {
            return itsLength <= length[berth] && draught <= depth[berth] + level;
        }
    }

    /** Boats, each with its home or none. */
    private static final class Boats {
        final int[] length = new int[MOST_BOATS];
        final int[] draught = new int[MOST_BOATS];
        final int[] weight = new int[MOST_BOATS];
        final int[] home = new int[MOST_BOATS];
        int count = 0;

        boolean has(int boat) {
            return boat >= 0 && boat < count;
        }

        int add(int itsLength, int itsDraught, int itsWeight, int itsHome) {
            if (count >= MOST_BOATS) {
                return NONE;
            }
            length[count] = itsLength;
            draught[count] = itsDraught;
            weight[count] = itsWeight;
            home[count] = itsHome;
            return count++;
        }
    }

    /** Spans of nights on which boats are away from their homes; those of one boat share no night. */
    private static final class Spans {
        final int[] boat = new int[MOST_SPANS];
        final int[] from = new int[MOST_SPANS];
        final int[] to = new int[MOST_SPANS];
        int count = 0;

        boolean add(int itsBoat, int first, int end) {
            if (count >= MOST_SPANS) {
                return false;
            }
            boat[count] = itsBoat;
            from[count] = first;
            to[count] = end;
            count++;
            return true;
        }

        // No call can see the order of spans, so the last may take the place of one that goes.
        void remove(int span) {
            if (span < 0 || span >= count) {
                return;
            }
            count--;
            boat[span] = boat[count];
            from[span] = from[count];
            to[span] = to[count];
        }

        int find(int itsBoat, int day) {
            for (int i = 0; i < count; i++) {
                if (boat[i] == itsBoat && from[i] <= day && day < to[i]) {
                    return i;
                }
            }
            return NONE;
        }

        int nightsAway(int itsBoat, int first, int end) {
            int nights = 0;
            for (int i = 0; i < count; i++) {
                if (boat[i] == itsBoat) {
                    nights += Math.max(0, Math.min(end, to[i]) - Math.max(first, from[i]));
                }
            }
            return nights;
        }
    }

    /** Stays of boats without a home. */
    private static final class Stays {
        final int[] boat = new int[MOST_STAYS];
        final int[] berth = new int[MOST_STAYS];
        final int[] from = new int[MOST_STAYS];
        final int[] to = new int[MOST_STAYS];
        int count = 0;

        boolean has(int s) {
            return s >= 0 && s < count;
        }

        int add(int itsBoat, int itsBerth, int first, int end) {
            if (count >= MOST_STAYS) {
                return NONE;
            }
            boat[count] = itsBoat;
            berth[count] = itsBerth;
            from[count] = first;
            to[count] = end;
            return count++;
        }

        int atBerth(int itsBerth, int first, int end) {
            for (int s = 0; s < count; s++) {
                if (berth[s] == itsBerth && from[s] < end && first < to[s]) {
                    return s;
                }
            }
            return NONE;
        }

        int ofBoat(int itsBoat, int first, int end) {
            for (int s = 0; s < count; s++) {
                if (boat[s] == itsBoat && from[s] < end && first < to[s]) {
                    return s;
                }
            }
            return NONE;
        }
    }

    /**
     * The walk that finds the fewest moves. It goes stay by stay and berth by berth, so the first
     * way of as few moves that it finds is the first by berths too.
     */
    private static final class Walk {
        private static final int NOT_FOUND = MOST_IN_WALK + 1;

        final int[] stay = new int[MOST_IN_WALK];
        final int[] best = new int[MOST_IN_WALK];
        int size = 0;
        private final int[] own = new int[MOST_IN_WALK];
        private final int[] from = new int[MOST_IN_WALK];
        private final int[] to = new int[MOST_IN_WALK];
        private final int[] put = new int[MOST_IN_WALK];
        // Sets of small numbers as bits: the berths allowed to a stay, the stays ahead of it that
        // share a night with it, the stays put at a berth.
        private final int[] allowed = new int[MOST_IN_WALK];
        private final int[] shares = new int[MOST_IN_WALK];
        private final int[] putAt = new int[MOST_BERTHS];
        private int berthCount = 0;
        private int fewest = NOT_FOUND;
        private int tries = 0;

        void restart(int berths) {
            size = 0;
            berthCount = Math.min(berths, MOST_BERTHS);
            fewest = NOT_FOUND;
            tries = 0;
            Arrays.fill(putAt, 0);
        }

        // All that are told here end behind the day of the walk, so two that share a night at all
        // share one from that day on: their nights ahead of it need not be cut off.
        void add(int itsStay, int itsBerth, int first, int end) {
            if (size >= MOST_IN_WALK) {
                return;
            }
            stay[size] = itsStay;
            own[size] = itsBerth;
            from[size] = first;
            to[size] = end;
            allowed[size] = 0;
            shares[size] = 0;
            for (int k = 0; k < size; k++) {
                if (from[k] < end && first < to[k]) {
                    shares[size] |= 1 << k;
                }
            }
            size++;
        }

        /** Allows a berth to the stay that was told last. */
        void allow(int berth) {
            if (size > 0) {
                allowed[size - 1] |= 1 << berth;
            }
        }

        void search() {
            putFrom(0, 0);
        }

        boolean isSpent() {
            return tries > MOST_TRIES;
        }

        boolean isFound() {
            return fewest != NOT_FOUND;
        }

        boolean isMoved(int k) {
            return best[k] != own[k];
        }

        int movedFromAhead(int day) {
            int number = 0;
            for (int k = 0; k < size; k++) {
                if (isMoved(k) && from[k] < day) {
                    number++;
                }
            }
            return number;
        }

        // As deep as there are stays in the walk, 12 at the most.
        private void putFrom(int k, int movedSoFar) {
            if (k >= size) {
                fewest = movedSoFar;
                System.arraycopy(put, 0, best, 0, size);
                return;
            }
            for (int b = 0; b < berthCount && !isSpent(); b++) {
                if ((allowed[k] >> b & 1) == 0 || (putAt[b] & shares[k]) != 0) {
                    continue;
                }
                tries++;
                int nowMoved = b == own[k] ? movedSoFar : movedSoFar + 1;
                if (nowMoved < fewest && !isSpent()) {
                    put[k] = b;
                    putAt[b] |= 1 << k;
                    putFrom(k + 1, nowMoved);
                    putAt[b] &= ~(1 << k);
                }
            }
        }
    }

    /** The hoist and its list of lifts. */
    private static final class Hoist {
        final boolean[] isBroken = new boolean[DAYS];
        int count = 0;
        private int leastLevel = 0;
        private int mostWeight = HEAVIEST;
        private int minutesOfDay = 300;
        private final int[] weight = new int[MOST_LIFTS];
        private final int[] earliest = new int[MOST_LIFTS];
        private final int[] minutes = new int[MOST_LIFTS];

        boolean set(int least, int most, int ofDay) {
            if (!isWithin(least, 0, HIGHEST_LEVEL) || !isWithin(most, 1, HEAVIEST)) {
                return false;
            }
            if (!isWithin(ofDay, 1, MOST_MINUTES)) {
                return false;
            }
            leastLevel = least;
            mostWeight = most;
            minutesOfDay = ofDay;
            return true;
        }

        int add(int itsWeight, int day, int itsMinutes) {
            if (count >= MOST_LIFTS) {
                return NONE;
            }
            weight[count] = itsWeight;
            earliest[count] = day;
            minutes[count] = itsMinutes;
            return count++;
        }

        int dayOf(int lift, Tide tide) {
            if (lift < 0 || lift >= count) {
                return NONE;
            }
            // Days of lifts never fall, so only the latest of them can have minutes gone.
            int latest = 0;
            int gone = 0;
            int day = NONE;
            for (int i = 0; i <= lift; i++) {
                day = firstDay(i, latest, gone, tide);
                if (day != NONE) {
                    gone = minutes[i] + (day == latest ? gone : 0);
                    latest = day;
                }
            }
            return day;
        }

        private int firstDay(int i, int latest, int gone, Tide tide) {
            if (weight[i] > mostWeight || minutes[i] > minutesOfDay) {
                return NONE;
            }
            for (int day = Math.max(earliest[i], latest); day < DAYS; day++) {
                int left = minutesOfDay - (day == latest ? gone : 0);
                if (minutes[i] <= left && !isBroken[day] && tide.on(day) >= leastLevel) {
                    return day;
                }
            }
            return NONE;
        }
    }

    /** The winter's shed: its boats as they came in, and the best lanes for them. */
    private static final class Shed {
        private static final int NOT_FOUND = MOST_IN_SHED * MOST_IN_SHED;

        int count = 0;
        int fewest = 0;
        final int[] best = new int[MOST_IN_SHED];
        private int lanes = 1;
        private int laneLength = 100;
        private final int[] boat = new int[MOST_IN_SHED];
        private final int[] length = new int[MOST_IN_SHED];
        private final int[] out = new int[MOST_IN_SHED];
        private final int[] put = new int[MOST_IN_SHED];
        private final int[] filled = new int[MOST_LANES];

        boolean restart(int number, int ofEach) {
            if (!isWithin(number, 1, MOST_LANES) || !isWithin(ofEach, SHORTEST, LONGEST_LANE)) {
                return false;
            }
            lanes = number;
            laneLength = ofEach;
            count = 0;
            fewest = 0;
            return true;
        }

        int add(int itsBoat, int itsLength, int day) {
            if (count >= MOST_IN_SHED || isIn(itsBoat)) {
                return NONE;
            }
            boat[count] = itsBoat;
            length[count] = itsLength;
            out[count] = day;
            count++;
            fewest = NOT_FOUND;
            putFrom(0, 0, 0);
            return count;
        }

        boolean isFilled() {
            return fewest != NOT_FOUND;
        }

        private boolean isIn(int itsBoat) {
            for (int i = 0; i < count; i++) {
                if (boat[i] == itsBoat) {
                    return true;
                }
            }
            return false;
        }

        // As deep as there are boats in the shed, 9 at the most. All lanes are of one length, so
        // of the empty ones only the first is tried: another one would be no better and later.
        private void putFrom(int i, int lanesUsed, int movesSoFar) {
            if (i >= count) {
                fewest = movesSoFar;
                System.arraycopy(put, 0, best, 0, count);
                return;
            }
            for (int lane = 0; lane < lanes && lane <= lanesUsed; lane++) {
                int nowMoves = movesSoFar + movesBy(i, lane);
                if (filled[lane] + length[i] > laneLength || nowMoves >= fewest) {
                    continue;
                }
                put[i] = lane;
                filled[lane] += length[i];
                putFrom(i + 1, Math.max(lanesUsed, lane + 1), nowMoves);
                filled[lane] -= length[i];
            }
        }

        private int movesBy(int i, int lane) {
            int number = 0;
            for (int j = 0; j < i; j++) {
                if (put[j] == lane && out[j] < out[i]) {
                    number++;
                }
            }
            return number;
        }
    }

    /** The bytes that the next rule is read from. */
    private static final class Tape {
        final int[] bytes = new int[MOST_BYTES];
        int count = 0;

        void addFour(int word) {
            for (int shift = 24; shift >= 0 && count < MOST_BYTES; shift -= 8) {
                bytes[count] = word >>> shift & 255;
                count++;
            }
        }
    }

    /**
     * Reads the tape into code: operands first, then what is done with them. A number of the text
     * stands in it as it is; all else as the negative of a sign.
     */
    private static final class Reader {
        // Kinds of tokens: signs and words are their own kind, by their bytes.
        private static final int END = 0;
        private static final int NO_TOKEN = 1;
        private static final int NUMBER = '0';
        private static final int IF = 'i' << 8 | 'f';
        private static final int THEN = 't' << 24 | 'h' << 16 | 'e' << 8 | 'n';
        private static final int ELSE = 'e' << 24 | 'l' << 16 | 's' << 8 | 'e';
        private static final int LONGEST_WORD = 4;

        private static final int CANNOT_STAND = 1;
        private static final int TOO_LARGE = 2;
        private static final int TOO_MANY = 3;

        final int[] code = new int[MOST_TOKENS];
        int size = 0;
        int flaw = NONE;
        int place = NONE;
        private final Tape tape;
        private int start;
        private int next;
        private int kind;
        private int value;
        private int taken;
        private int open;

        Reader(Tape tape) {
            this.tape = tape;
        }

        boolean readTape() {
            size = 0;
            flaw = 0;
            place = NONE;
            next = 0;
            taken = 0;
            open = 0;
            comeToNext();
            readE();
            if (flaw == 0 && kind != END) {
                refuse(CANNOT_STAND);
            }
            return flaw == 0;
        }

        // After a fault nothing more is read: each of these methods goes back at once, so that the
        // first fault stays. They go at most five calls deeper for each of ( - if that is open, and
        // openOne() refuses the 11th of those.

        private void readE() {
            if (flaw != 0) {
                return;
            }
            if (kind != IF) {
                readC();
                return;
            }
            openOne();
            readE();
            expect(THEN);
            readE();
            expect(ELSE);
            readE();
            emit(-'?');
            open--;
        }

        private void readC() {
            readS();
            if (flaw == 0 && (kind == '<' || kind == '=')) {
                int sign = kind;
                take();
                readS();
                emit(-sign);
            }
        }

        private void readS() {
            readT();
            for (int i = 0; i < MOST_TOKENS && flaw == 0 && (kind == '+' || kind == '-'); i++) {
                int sign = kind;
                take();
                readT();
                emit(-sign);
            }
        }

        private void readT() {
            readU();
            for (int i = 0; i < MOST_TOKENS && flaw == 0 && isOfT(kind); i++) {
                int sign = kind;
                take();
                readU();
                emit(-sign);
            }
        }

        private void readU() {
            if (flaw != 0) {
                return;
            }
            switch (kind) {
                case NUMBER:
                    emit(value);
                    take();
                    break;
                case 'f':
                case 'n':
                case 'd':
                    emit(-kind);
                    take();
                    break;
                case '-':
                    openOne();
                    readU();
                    emit(-'~');
                    open--;
                    break;
                case '(':
                    openOne();
                    readE();
                    expect(')');
                    open--;
                    break;
                default:
                    refuse(CANNOT_STAND);
            }
        }

        private static boolean isOfT(int sign) {
            return sign == '*' || sign == '/' || sign == '%';
        }

        private void expect(int wanted) {
            if (kind == wanted) {
                take();
            } else {
                refuse(CANNOT_STAND);
            }
        }

        private void openOne() {
            if (open >= MOST_OPEN) {
                refuse(TOO_MANY);
            }
            open++;
            take();
        }

        // Of the faults of one token the lowest counts: it is known here that it can stand there.
        private void take() {
            if (flaw != 0) {
                return;
            }
            taken++;
            if (kind == NUMBER && value > LARGEST_NUMBER) {
                refuse(TOO_LARGE);
            } else if (taken > MOST_TOKENS) {
                refuse(TOO_MANY);
            } else {
                comeToNext();
            }
        }

        private void refuse(int itsFlaw) {
            if (flaw == 0) {
                flaw = itsFlaw;
                place = start;
            }
        }

        private void emit(int item) {
            if (size < MOST_TOKENS) {
                code[size] = item;
                size++;
            }
        }

        private void comeToNext() {
            while (next < tape.count && tape.bytes[next] == ' ') {
                next++;
            }
            start = next;
            if (next >= tape.count) {
                kind = END;
                return;
            }
            int c = tape.bytes[next];
            if (isDigit(c)) {
                comeToNumber();
            } else if (isLetter(c)) {
                comeToWord();
            } else {
                next++;
                kind = isSign(c) ? c : NO_TOKEN;
            }
        }

        private void comeToNumber() {
            kind = NUMBER;
            value = 0;
            while (next < tape.count && isDigit(tape.bytes[next])) {
                value = Math.min(value * 10 + tape.bytes[next] - '0', LARGEST_NUMBER + 1);
                next++;
            }
        }

        private void comeToWord() {
            int word = 0;
            while (next < tape.count && isLetter(tape.bytes[next])) {
                word = word << 8 | tape.bytes[next];
                next++;
            }
            // A longer word has lost its first letters in the shifts.
            boolean isWhole = next - start <= LONGEST_WORD;
            kind = isWhole && isWord(word) ? word : NO_TOKEN;
        }

        private static boolean isWord(int word) {
            switch (word) {
                case 'f':
                case 'n':
                case 'd':
                case IF:
                case THEN:
                case ELSE:
                    return true;
                default:
                    return false;
            }
        }

        private static boolean isDigit(int c) {
            return c >= '0' && c <= '9';
        }

        private static boolean isLetter(int c) {
            return c >= 'a' && c <= 'z' || c >= 'A' && c <= 'Z';
        }

        private static boolean isSign(int c) {
            switch (c) {
                case '(':
                case ')':
                case '+':
                case '-':
                case '*':
                case '/':
                case '%':
                case '<':
                case '=':
                    return true;
                default:
                    return false;
            }
        }
    }

    /** Rules as the reader's code, each with the day from which on it is in force. */
    private static final class Rules {
        int count = 0;
        private final int[] from = new int[MOST_RULES];
        private final int[] sizes = new int[MOST_RULES];
        private final int[] codes = new int[MOST_RULES * MOST_TOKENS];
        private final int[] stack = new int[MOST_TOKENS];
        private int top = 0;

        int add(int day, int[] code, int size) {
            if (count >= MOST_RULES || size > MOST_TOKENS) {
                return NONE;
            }
            from[count] = day;
            sizes[count] = size;
            System.arraycopy(code, 0, codes, count * MOST_TOKENS, size);
            return count++;
        }

        int inForce(int day) {
            int found = NONE;
            for (int r = 0; r < count; r++) {
                if (from[r] <= day && (found == NONE || from[r] >= from[found])) {
                    found = r;
                }
            }
            return found;
        }

        int reckon(int rule, int f, int n, int d) {
            if (rule < 0 || rule >= count) {
                return 0;
            }
            top = 0;
            int first = rule * MOST_TOKENS;
            for (int i = first; i < first + sizes[rule]; i++) {
                int item = codes[i];
                switch (item) {
                    case -'f':
                        push(f);
                        break;
                    case -'n':
                        push(n);
                        break;
                    case -'d':
                        push(d);
                        break;
                    default:
                        workOn(item);
                }
            }
            return pop();
        }

        private void workOn(int item) {
            if (item >= 0) {
                push(item);
            } else if (item == -'~') {
                push(-pop());
            } else if (item == -'?') {
                int otherwise = pop();
                int then = pop();
                push(pop() != 0 ? then : otherwise);
            } else {
                int right = pop();
                push(join(-item, pop(), right));
            }
        }

        private static int join(int sign, int left, int right) {
            switch (sign) {
                case '+':
                    return left + right;
                case '-':
                    return left - right;
                case '*':
                    return left * right;
                case '/':
                    return right == 0 ? 0 : left / right;
                case '%':
                    return right == 0 ? 0 : left % right;
                case '<':
                    return left < right ? 1 : 0;
                default:
                    return left == right ? 1 : 0;
            }
        }

        private void push(int x) {
            if (top < MOST_TOKENS) {
                stack[top] = x;
                top++;
            }
        }

        private int pop() {
            if (top <= 0) {
                return 0;
            }
            top--;
            return stack[top];
        }
    }
}
