import java.util.ArrayList;
import java.util.HashMap;
import java.util.List;
import java.util.Map;

/**
 * The document's words once more, night by night and without a thought of speed, to be held against
 * the class. It answers calls by name, so that a driver can put the same call to both.
 */
final class PlainHarbour {
    private record Boat(int length, int draught, int weight, int home) {
    }

    private record Lift(Boat boat, int day, int minutes) {
    }

    private record Wintering(int boat, int length, int out) {
    }

    private record Rule(int day, PlainText text) {
    }

    private static final class Stay {
        int boat;
        int berth;
        int from;
        int to;

        Stay(int boat, int berth, int from, int to) {
            this.boat = boat;
            this.berth = berth;
            this.from = from;
            this.to = to;
        }

        boolean has(int night) {
            return from <= night && night < to;
        }
    }

    private int[] levels = {0};
    private final List<int[]> berths = new ArrayList<>();
    private final List<Boat> boats = new ArrayList<>();
    private final List<int[]> spans = new ArrayList<>();
    private final List<Stay> stays = new ArrayList<>();
    private List<int[]> moves = new ArrayList<>();
    private int leastLevel = 0;
    private int mostWeight = 500;
    private int minutes = 300;
    private final boolean[] broken = new boolean[400];
    private final List<Lift> lifts = new ArrayList<>();
    private int lanes = 1;
    private int laneLength = 100;
    private final List<Wintering> shed = new ArrayList<>();
    private final Map<List<Wintering>, int[]> shedWays = new HashMap<>();
    private String tape = "";
    private PlainText latest = null;
    private final List<Rule> rules = new ArrayList<>();

    // ---- I ----

    int levels(int n) {
        if (n < 1 || n > 30 || isFixed()) {
            return 0;
        }
        levels = new int[n];
        return 1;
    }

    int level(int k, int v) {
        if (k < 0 || k >= levels.length || v < 0 || v > 40 || isFixed()) {
            return 0;
        }
        levels[k] = v;
        return 1;
    }

    private boolean isFixed() {
        return !stays.isEmpty() || boats.stream().anyMatch(b -> b.home >= 0);
    }

    int berth(int length, int depth) {
        if (length < 10 || length > 400 || depth < 0 || depth > 60 || berths.size() == 10) {
            return -1;
        }
        berths.add(new int[] {length, depth});
        return berths.size() - 1;
    }

    private boolean fitsOn(Boat boat, int berth, int day) {
        int[] b = berths.get(berth);
        return boat.length <= b[0] && boat.draught <= b[1] + levels[day % levels.length];
    }

    int boat(int length, int draught, int weight, int home) {
        if (length < 10 || length > 400 || draught < 0 || draught > 60 || weight < 1 || weight > 500) {
            return -1;
        }
        if (home < -1 || home >= berths.size() || boats.size() == 30) {
            return -1;
        }
        Boat boat = new Boat(length, draught, weight, home);
        if (home >= 0) {
            if (boats.stream().anyMatch(b -> b.home == home) || stays.stream().anyMatch(s -> s.berth == home)) {
                return -1;
            }
            for (int day = 0; day < 400; day++) {
                if (!fitsOn(boat, home, day)) {
                    return -1;
                }
            }
        }
        boats.add(boat);
        return boats.size() - 1;
    }

    private boolean isAway(int boat, int night) {
        return spans.stream().anyMatch(s -> s[0] == boat && s[1] <= night && night < s[2]);
    }

    private static boolean areNights(int from, int to) {
        return from >= 0 && to <= 400 && from < to;
    }

    private boolean isBoat(int boat) {
        return boat >= 0 && boat < boats.size();
    }

    int away(int boat, int from, int to) {
        if (!isBoat(boat) || boats.get(boat).home < 0 || !areNights(from, to) || spans.size() == 60) {
            return 0;
        }
        for (int night = from; night < to; night++) {
            if (isAway(boat, night)) {
                return 0;
            }
        }
        spans.add(new int[] {boat, from, to});
        return 1;
    }

    private int ownerThere(int berth, int night) {
        for (int boat = 0; boat < boats.size(); boat++) {
            if (boats.get(boat).home == berth && !isAway(boat, night)) {
                return boat;
            }
        }
        return -1;
    }

    int lies(int berth, int day) {
        if (berth < 0 || berth >= berths.size() || day < 0 || day > 399) {
            return -1;
        }
        int found = ownerThere(berth, day);
        for (Stay s : stays) {
            if (s.berth == berth && s.has(day)) {
                if (found != -1) {
                    throw new IllegalStateException("two boats at berth " + berth + " on " + day);
                }
                found = s.boat;
            }
        }
        return found;
    }

    int stay(int boat, int from, int to) {
        if (!isBoat(boat) || boats.get(boat).home >= 0 || !areNights(from, to) || stays.size() == 40) {
            return -1;
        }
        for (int night = from; night < to; night++) {
            if (boatOf(boat, 100 + night) != -1) {
                return -1;
            }
        }
        berth:
        for (int berth = 0; berth < berths.size(); berth++) {
            for (int night = from; night < to; night++) {
                if (!fitsOn(boats.get(boat), berth, night) || lies(berth, night) != -1) {
                    continue berth;
                }
            }
            stays.add(new Stay(boat, berth, from, to));
            return stays.size() - 1;
        }
        return -1;
    }

    int leaves(int stay, int day) {
        if (stay < 0 || stay >= stays.size() || !stays.get(stay).has(day) || stays.get(stay).from == day) {
            return 0;
        }
        stays.get(stay).to = day;
        return 1;
    }

    int boatOf(int boat, int what) {
        if (!isBoat(boat)) {
            return -1;
        }
        Boat b = boats.get(boat);
        if (what >= 0 && what < 4) {
            return new int[] {b.length, b.draught, b.weight, b.home}[what];
        }
        for (int berth = 0; what >= 100 && what < 500 && berth < berths.size(); berth++) {
            if (lies(berth, what - 100) == boat) {
                return berth;
            }
        }
        return -1;
    }

    int fits(int boat, int berth, int day) {
        if (!isBoat(boat) || berth < 0 || berth >= berths.size() || day < 0 || day > 399) {
            return -1;
        }
        return fitsOn(boats.get(boat), berth, day) ? 1 : 0;
    }

    int stayOf(int s, int what) {
        if (s < 0 || s >= stays.size() || what < 0 || what > 4) {
            return -1;
        }
        Stay it = stays.get(s);
        return what == 4 ? bill(it) : new int[] {it.boat, it.berth, it.from, it.to}[what];
    }

    // ---- home early ----

    private List<Stay> walkers;
    private int[] put;
    private int[] best;
    private int bestMoves;
    private long tries;

    int home(int boat, int day) {
        if (day < 0 || day > 399 || !isBoat(boat) || !isAway(boat, day)) {
            return -1;
        }
        int[] span = spans.stream().filter(s -> s[0] == boat && s[1] <= day && day < s[2]).findFirst().get();
        int end = span[2];
        span[2] = day;
        int answer = homeWithSpanEnded(day);
        if (answer < 0) {
            span[2] = end;
        } else if (span[1] == day) {
            spans.remove(span);
        }
        return answer;
    }

    private int homeWithSpanEnded(int day) {
        walkers = new ArrayList<>();
        for (Stay s : stays) {
            if (s.to - 1 >= day) {
                walkers.add(s);
            }
        }
        if (walkers.size() > 12) {
            return -2;
        }
        put = new int[walkers.size()];
        best = null;
        bestMoves = 1000;
        tries = 0;
        walk(0, day);
        if (tries > 50000) {
            return -2;
        }
        checkByEveryWay(day);
        if (best == null) {
            return -1;
        }
        int more = 0;
        for (int k = 0; k < best.length; k++) {
            if (best[k] != walkers.get(k).berth && walkers.get(k).from < day) {
                more++;
            }
        }
        if (stays.size() + more > 40) {
            return -3;
        }
        moves = new ArrayList<>();
        for (int k = 0; k < best.length; k++) {
            Stay s = walkers.get(k);
            if (best[k] == s.berth) {
                continue;
            }
            int now = stays.indexOf(s);
            if (s.from < day) {
                stays.add(new Stay(s.boat, best[k], day, s.to));
                s.to = day;
                now = stays.size() - 1;
            } else {
                s.berth = best[k];
            }
            moves.add(new int[] {stays.indexOf(s), best[k], now});
        }
        return moves.size();
    }

    private boolean canBePut(int k, int berth, int day) {
        Stay s = walkers.get(k);
        for (int night = Math.max(day, s.from); night < s.to; night++) {
            if (!fitsOn(boats.get(s.boat), berth, night) || ownerThere(berth, night) != -1) {
                return false;
            }
            for (int j = 0; j < k; j++) {
                if (put[j] == berth && walkers.get(j).has(night)) {
                    return false;
                }
            }
        }
        return true;
    }

    private int movedAmong(int count, int[] way) {
        int moved = 0;
        for (int k = 0; k < count; k++) {
            moved += way[k] != walkers.get(k).berth ? 1 : 0;
        }
        return moved;
    }

    private void walk(int k, int day) {
        if (k == walkers.size()) {
            best = put.clone();
            bestMoves = movedAmong(k, put);
            return;
        }
        for (int berth = 0; berth < berths.size() && tries <= 50000; berth++) {
            if (canBePut(k, berth, day)) {
                tries++;
                put[k] = berth;
                if (movedAmong(k + 1, put) < bestMoves && tries <= 50000) {
                    walk(k + 1, day);
                }
            }
        }
    }

    // Where they are few: all ways, the fewest moves of them, the first by berths of those.
    private void checkByEveryWay(int day) {
        double ways = Math.pow(berths.size(), walkers.size());
        if (ways > 3000) {
            return;
        }
        int[] found = null;
        for (int way = 0; way < (int) ways; way++) {
            int rest = way;
            for (int k = walkers.size() - 1; k >= 0; k--) {
                put[k] = rest % berths.size();
                rest /= berths.size();
            }
            boolean isGood = true;
            for (int k = 0; k < walkers.size() && isGood; k++) {
                isGood = canBePut(k, put[k], day);
            }
            int count = walkers.size();
            if (isGood && (found == null || movedAmong(count, put) < movedAmong(count, found))) {
                found = put.clone();
            }
        }
        if (!java.util.Arrays.equals(found, best)) {
            throw new IllegalStateException("the walk of the model is wrong");
        }
    }

    int moved(int i, int part) {
        return i < 0 || i >= moves.size() || part < 0 || part > 2 ? -1 : moves.get(i)[part];
    }

    // ---- II ----

    int hoist(int level, int weight, int ofDay) {
        if (level < 0 || level > 40 || weight < 1 || weight > 500 || ofDay < 1 || ofDay > 600) {
            return 0;
        }
        leastLevel = level;
        mostWeight = weight;
        minutes = ofDay;
        return 1;
    }

    int broken(int day, boolean it) {
        if (day < 0 || day > 399) {
            return 0;
        }
        broken[day] = it;
        return 1;
    }

    int lift(int boat, int day, int itsMinutes) {
        if (!isBoat(boat) || day < 0 || day > 399 || itsMinutes < 1 || itsMinutes > 600 || lifts.size() == 40) {
            return -1;
        }
        lifts.add(new Lift(boats.get(boat), day, itsMinutes));
        return lifts.size() - 1;
    }

    int lifted(int i) {
        if (i < 0 || i >= lifts.size()) {
            return -1;
        }
        int[] left = new int[400];
        java.util.Arrays.fill(left, minutes);
        int notAheadOf = 0;
        int found = -1;
        for (int k = 0; k <= i; k++) {
            Lift lift = lifts.get(k);
            found = -1;
            for (int day = 399; day >= lift.day && day >= notAheadOf; day--) {
                boolean hasWater = levels[day % levels.length] >= leastLevel;
                if (hasWater && !broken[day] && left[day] >= lift.minutes && lift.boat.weight <= mostWeight) {
                    found = day;
                }
            }
            if (found != -1) {
                left[found] -= lift.minutes;
                notAheadOf = found;
            }
        }
        return found;
    }

    // ---- III ----

    int shed(int number, int length) {
        if (number < 1 || number > 4 || length < 10 || length > 2000) {
            return 0;
        }
        lanes = number;
        laneLength = length;
        shed.clear();
        shedWays.clear();
        return 1;
    }

    int winter(int boat, int out) {
        if (!isBoat(boat) || out < 0 || out > 399 || shed.size() == 9) {
            return -1;
        }
        if (shed.stream().anyMatch(w -> w.boat == boat)) {
            return -1;
        }
        shed.add(new Wintering(boat, boats.get(boat).length, out));
        return shed.size();
    }

    private int shedMoves(int[] way) {
        int sum = 0;
        for (int i = 0; i < shed.size(); i++) {
            for (int j = 0; j < i; j++) {
                sum += way[i] == way[j] && shed.get(j).out < shed.get(i).out ? 1 : 0;
            }
        }
        return sum;
    }

    private int[] shedWay() {
        return shedWays.computeIfAbsent(new ArrayList<>(shed), key -> everyShedWay());
    }

    // An empty row where there is no way.
    private int[] everyShedWay() {
        int ways = (int) Math.pow(lanes, shed.size());
        int[] found = new int[0];
        int fewest = 1000;
        int[] way = new int[shed.size() + 1];
        for (int number = 0; number < ways; number++) {
            int rest = number;
            int[] filled = new int[lanes];
            boolean isHeld = true;
            for (int i = shed.size() - 1; i >= 0; i--) {
                way[i] = rest % lanes;
                rest /= lanes;
                filled[way[i]] += shed.get(i).length;
                isHeld &= filled[way[i]] <= laneLength;
            }
            if (isHeld && shedMoves(way) < fewest) {
                fewest = shedMoves(way);
                found = way.clone();
            }
        }
        return found;
    }

    int moves() {
        int[] way = shedWay();
        return way.length == 0 ? -1 : shedMoves(way);
    }

    int lane(int i) {
        int[] way = shedWay();
        return i < 0 || i >= shed.size() || way.length == 0 ? -1 : way[i];
    }

    // ---- IV ----

    int feed(int... words) {
        if (tape.length() > 180) {
            return -1;
        }
        for (int word : words) {
            for (byte b : java.nio.ByteBuffer.allocate(4).putInt(word).array()) {
                tape += (char) (b & 255);
            }
        }
        return tape.length();
    }

    int end(int n) {
        if (n < 0 || n > tape.length()) {
            return -1;
        }
        tape = tape.substring(0, n);
        return n;
    }

    int rule(int day) {
        if (day < 0 || day > 399 || rules.size() == 8) {
            return -1;
        }
        latest = new PlainText(tape);
        tape = "";
        if (latest.fault() != 0) {
            return -1;
        }
        rules.add(new Rule(day, latest));
        return rules.size() - 1;
    }

    int fault(int what) {
        if (latest == null || what < 0 || what > 1) {
            return -1;
        }
        return what == 0 ? latest.fault() : latest.place();
    }

    int says(int rule, int f, int n, int d) {
        return rule < 0 || rule >= rules.size() ? 0 : rules.get(rule).text.value(f, n, d);
    }

    private int bill(Stay s) {
        for (int day = s.from; day >= 0; day--) {
            for (int r = rules.size() - 1; r >= 0; r--) {
                if (rules.get(r).day == day) {
                    return says(r, boats.get(s.boat).length, s.to - s.from, s.from);
                }
            }
        }
        return 0;
    }

    int owes(int boat) {
        return stays.stream().filter(s -> s.boat == boat).mapToInt(this::bill).sum();
    }

    int about(int what) {
        int[] all = {berths.size(), boats.size(), stays.size(), spans.size(), lifts.size(), shed.size(),
            rules.size(), tape.length(), moves.size()};
        return what < 0 || what >= all.length ? -1 : all[what];
    }
}
