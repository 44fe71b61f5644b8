import java.util.ArrayList;
import java.util.Arrays;
import java.util.HashSet;
import java.util.List;
import java.util.PriorityQueue;
import java.util.Set;

/** The document told a second time, plainly and slowly, with nothing of the class under test but its constants. */
final class Model {
    private static final int NONE = RopePost.NONE, UNKNOWN = RopePost.UNKNOWN, OUTSIDE = RopePost.OUTSIDE;
    private static final int NOT = RopePost.NOT, FULL = RopePost.FULL;
    private static final List<String> KINDS = List.of("plain", "alive", "level", "long");

    /** A pole: X Y B. A rope: P Q L C. A boy: P W S. A load: A B W V KIND. */
    private List<int[]> poles = List.of(), ropes = List.of(), boys = List.of(), loads = List.of();
    private Day day = new Day();
    private final Day[] images = new Day[2];
    private final List<int[]> sightings = new ArrayList<>();
    private String text = "";
    private int faultAt = NONE;

    /** What images keep. */
    private static final class Day {
        int minute, had;
        long seed;
        int[] wear = {};
        boolean[] whole = {}, wet = {};
        /** Of a boy at a pole: the pole, NONE, 0, the pole; of one on a rope: NONE, the rope, minutes to go, the end. */
        int[][] boys = {};
        /** Of a load: where it lies, who carries it, 1: delivered. */
        int[][] loads = {};
        List<int[]> rings = new ArrayList<>();

        Day copy() {
            Day other = new Day();
            other.minute = minute;
            other.had = had;
            other.seed = seed;
            other.wear = wear.clone();
            other.whole = whole.clone();
            other.wet = wet.clone();
            other.boys = copyRows(boys);
            other.loads = copyRows(loads);
            other.rings = new ArrayList<>(rings);
            return other;
        }

        private static int[][] copyRows(int[][] rows) {
            int[][] copy = new int[rows.length][];
            for (int k = 0; k < rows.length; k++) {
                copy[k] = rows[k].clone();
            }
            return copy;
        }

        int draw(int n) {
            seed = (seed * 1103515245L + 12345L) % 2147483648L;
            return (int) (seed / 65536 % n);
        }
    }

    // ---- the text

    private static final class Fault extends Exception {
        private static final long serialVersionUID = 1;
        final int number, at;

        Fault(int number, int at) {
            this.number = number;
            this.at = at;
        }
    }

    private List<String> words;
    private List<Integer> starts;
    private int next;

    /** Words, numbers and single signs; an empty one at the end. */
    private void split() {
        words = new ArrayList<>();
        starts = new ArrayList<>();
        java.util.regex.Matcher found = java.util.regex.Pattern.compile("[a-z]+|[0-9]+|[^ ]", java.util.regex.Pattern.DOTALL).matcher(text);
        while (found.find()) {
            words.add(found.group());
            starts.add(found.start());
        }
        words.add("");
        starts.add(text.length());
        next = 0;
    }

    private int number(int low, int high) throws Fault {
        String word = words.get(next);
        int at = starts.get(next);
        if (!word.matches("[0-9]+")) {
            throw new Fault(1, at);
        }
        if (word.length() > 3 || Integer.parseInt(word) < low || Integer.parseInt(word) > high) {
            throw new Fault(2, at);
        }
        next++;
        return Integer.parseInt(word);
    }

    private int unlike(int other, int count) throws Fault {
        int at = starts.get(next);
        int number = number(0, count - 1);
        if (number == other) {
            throw new Fault(4, at);
        }
        return number;
    }

    private void room(List<int[]> list, int most) throws Fault {
        if (list.size() == most) {
            throw new Fault(3, starts.get(next));
        }
        next++;
    }

    private void readClause(List<int[]> newPoles, List<int[]> newRopes, List<int[]> newBoys, List<int[]> newLoads) throws Fault {
        int last = newPoles.size() - 1;
        switch (words.get(next)) {
            case "pole":
                room(newPoles, 8);
                newPoles.add(new int[] {number(0, 99), number(0, 99), number(1, 5)});
                break;
            case "rope":
                room(newRopes, 12);
                int p = number(0, last);
                newRopes.add(new int[] {p, unlike(p, newPoles.size()), number(1, 99), number(1, 999)});
                break;
            case "boy":
                room(newBoys, 4);
                int at = starts.get(next), home = number(0, last);
                if (newBoys.stream().filter(boy -> boy[0] == home).count() >= newPoles.get(home)[2]) {
                    throw new Fault(4, at);
                }
                newBoys.add(new int[] {home, number(1, 200), number(1, 50)});
                break;
            case "load":
                room(newLoads, 4);
                int a = number(0, last);
                int[] load = {a, unlike(a, newPoles.size()), number(0, 200), number(0, 999), KINDS.indexOf(words.get(next))};
                if (load[4] < 0) {
                    throw new Fault(1, starts.get(next));
                }
                next++;
                newLoads.add(load);
                break;
            default:
                throw new Fault(1, starts.get(next));
        }
        if (!words.get(next).equals(";")) {
            throw new Fault(1, starts.get(next));
        }
        next++;
    }

    int feed(int n, long bytes) {
        if (n < 1 || n > 8) {
            return OUTSIDE;
        }
        if (text.length() + n > 500) {
            return FULL;
        }
        StringBuilder more = new StringBuilder();
        for (int k = 0; k < n; k++) {
            more.insert(0, (char) (bytes & 255));
            bytes >>= 8;
        }
        text += more;
        return text.length();
    }

    int town() {
        List<int[]> newPoles = new ArrayList<>(), newRopes = new ArrayList<>(), newBoys = new ArrayList<>(), newLoads = new ArrayList<>();
        split();
        text = "";
        try {
            while (!words.get(next).isEmpty()) {
                readClause(newPoles, newRopes, newBoys, newLoads);
            }
        } catch (Fault fault) {
            faultAt = fault.at;
            return -10 - fault.number;
        }
        faultAt = NONE;
        poles = newPoles;
        ropes = newRopes;
        boys = newBoys;
        loads = newLoads;
        begin();
        return poles.size();
    }

    private void begin() {
        long seed = day.seed;
        day = new Day();
        day.seed = seed;
        day.wear = new int[ropes.size()];
        day.wet = new boolean[ropes.size()];
        day.whole = new boolean[ropes.size()];
        Arrays.fill(day.whole, true);
        day.boys = new int[boys.size()][];
        for (int b = 0; b < boys.size(); b++) {
            day.boys[b] = new int[] {boys.get(b)[0], NONE, 0, boys.get(b)[0]};
        }
        day.loads = new int[loads.size()][];
        for (int l = 0; l < loads.size(); l++) {
            day.loads[l] = new int[] {loads.get(l)[0], NONE, 0};
        }
        sightings.clear();
        Arrays.fill(images, null);
    }

    // ---- what is told

    int fault() {
        return faultAt;
    }

    private interface Test {
        boolean of(int k);
    }

    private static int set(int count, Test test) {
        int set = 0;
        for (int k = 0; k < count; k++) {
            set |= test.of(k) ? 1 << k : 0;
        }
        return set;
    }

    private static boolean in(int k, List<int[]> list) {
        return k >= 0 && k < list.size();
    }

    private static int pick(int what, int... answers) {
        return what < 0 || what >= answers.length ? OUTSIDE : answers[what];
    }

    private int wholeOnes() {
        return set(ropes.size(), r -> day.whole[r]);
    }

    private int deliveredOnes() {
        return set(loads.size(), l -> day.loads[l][2] == 1);
    }

    private int carriedBy(int b) {
        return set(loads.size(), l -> day.loads[l][1] == b);
    }

    private int boysAt(int p) {
        return set(boys.size(), b -> day.boys[b][0] == p);
    }

    private int whoIsOn(int r) {
        for (int b = 0; b < boys.size(); b++) {
            if (day.boys[b][1] == r) {
                return b;
            }
        }
        return NONE;
    }

    int told(int what) {
        return pick(what, poles.size(), ropes.size(), boys.size(), loads.size(), text.length(), day.minute, day.had, deliveredOnes(),
            day.rings.size(), sightings.size(), wholeOnes());
    }

    int pole(int p, int what) {
        if (!in(p, poles)) {
            return UNKNOWN;
        }
        int[] pole = poles.get(p);
        return pick(what, pole[0], pole[1], pole[2], boysAt(p), set(loads.size(), l -> day.loads[l][0] == p));
    }

    int rope(int r, int what) {
        if (!in(r, ropes)) {
            return UNKNOWN;
        }
        int[] rope = ropes.get(r);
        return pick(what, rope[0], rope[1], rope[2], rope[3], day.wear[r], day.wet[r] ? 1 : 0, day.whole[r] ? 1 : 0, whoIsOn(r));
    }

    int boy(int b, int what) {
        if (!in(b, boys)) {
            return UNKNOWN;
        }
        int[] boy = day.boys[b];
        return pick(what, boy[0], boy[1], boy[2], boys.get(b)[1], boys.get(b)[2], carriedBy(b));
    }

    int load(int l, int what) {
        if (!in(l, loads)) {
            return UNKNOWN;
        }
        int[] load = loads.get(l), now = day.loads[l];
        return pick(what, now[0], load[1], load[2], load[3], load[4], now[1], now[2]);
    }

    // ---- minutes

    private int pounds(int b, int carried) {
        int pounds = boys.get(b)[1];
        for (int l = 0; l < loads.size(); l++) {
            pounds += (carried >> l & 1) * loads.get(l)[2];
        }
        return pounds;
    }

    private boolean hasKind(int carried, int kind) {
        return (carried & set(loads.size(), l -> loads.get(l)[4] == kind)) != 0;
    }

    /** NONE: it may not be gone, whoever is on it. */
    private int minutes(int b, int r, int carried, boolean dry) {
        int[] rope = ropes.get(r);
        if (!day.whole[r] || pounds(b, carried) > rope[3] || hasKind(carried, 3) && rope[2] < 20) {
            return NONE;
        }
        int minutes = 0;
        for (int gone = 0; gone < rope[2]; gone += boys.get(b)[2]) {
            minutes++;
        }
        if (hasKind(carried, 2)) {
            minutes += minutes == 1 ? 1 : minutes / 2;
        }
        return day.wet[r] && !dry ? minutes * 2 : minutes;
    }

    private int otherEnd(int r, int p) {
        int[] rope = ropes.get(r);
        return rope[0] == p ? rope[1] : rope[1] == p ? rope[0] : NONE;
    }

    int go(int b, int r) {
        if (!in(b, boys) || !in(r, ropes)) {
            return UNKNOWN;
        }
        int[] boy = day.boys[b];
        int minutes = minutes(b, r, carriedBy(b), false);
        if (boy[0] == NONE || otherEnd(r, boy[0]) == NONE || whoIsOn(r) != NONE || minutes == NONE) {
            return NOT;
        }
        day.boys[b] = new int[] {NONE, r, minutes, otherEnd(r, boy[0])};
        if (day.rings.size() < 200) {
            day.rings.add(new int[] {day.minute, r});
        }
        return minutes;
    }

    int take(int b, int l) {
        if (!in(b, boys) || !in(l, loads)) {
            return UNKNOWN;
        }
        int carries = Integer.bitCount(carriedBy(b));
        if (day.boys[b][0] == NONE || day.loads[l][0] != day.boys[b][0] || carries == 2) {
            return NOT;
        }
        day.loads[l] = new int[] {NONE, b, 0};
        return carries + 1;
    }

    int lay(int b, int l) {
        if (!in(b, boys) || !in(l, loads)) {
            return UNKNOWN;
        }
        if (day.boys[b][0] == NONE || day.loads[l][1] != b) {
            return NOT;
        }
        day.loads[l] = new int[] {day.boys[b][0], NONE, 0};
        return Integer.bitCount(carriedBy(b));
    }

    int pass(int n) {
        if (n < 1 || n > 99) {
            return OUTSIDE;
        }
        for (int k = 0; k < n; k++) {
            day.minute++;
            for (int b = 0; b < boys.size(); b++) {
                if (day.boys[b][1] != NONE) {
                    minuteOnRope(b);
                }
            }
        }
        return deliveredOnes();
    }

    private void minuteOnRope(int b) {
        int[] boy = day.boys[b];
        int end = boy[3], r = boy[1];
        if (boy[2] > 1) {
            boy[2]--;
        } else if (Integer.bitCount(boysAt(end)) < poles.get(end)[2]) {
            int carried = carriedBy(b);
            day.wear[r] += pounds(b, carried) / 10 + 1;
            day.whole[r] = day.wear[r] < 100;
            day.boys[b] = new int[] {end, NONE, 0, end};
            for (int l = 0; l < loads.size(); l++) {
                int[] load = loads.get(l);
                if ((carried >> l & 1) == 1 && load[1] == end) {
                    day.loads[l] = new int[] {NONE, NONE, 1};
                    day.had += load[4] == 1 && day.minute > 60 ? 0 : load[3];
                }
            }
        }
    }

    int cut(int r) {
        if (!in(r, ropes)) {
            return UNKNOWN;
        }
        if (!day.whole[r] || whoIsOn(r) != NONE) {
            return NOT;
        }
        day.whole[r] = false;
        return 1;
    }

    int splice(int r) {
        if (!in(r, ropes)) {
            return UNKNOWN;
        }
        if (day.whole[r]) {
            return NOT;
        }
        day.whole[r] = true;
        day.wear[r] = 0;
        return 1;
    }

    int wet(int r, boolean is) {
        if (!in(r, ropes)) {
            return UNKNOWN;
        }
        int was = day.wet[r] ? 1 : 0;
        day.wet[r] = is;
        return was;
    }

    int storm(int q) {
        if (q < 0 || q > 100) {
            return OUTSIDE;
        }
        int before = wholeOnes();
        for (int r = 0; r < ropes.size(); r++) {
            if (day.whole[r] && whoIsOn(r) == NONE && day.draw(100) < q) {
                day.wear[r] += day.draw(40);
                day.whole[r] = day.wear[r] < 100;
            }
        }
        for (int r = 0; r < ropes.size(); r++) {
            day.wet[r] = day.draw(2) == 1;
        }
        return before ^ wholeOnes();
    }

    int ring(int i, int what) {
        if (what < 0 || what > 1) {
            return OUTSIDE;
        }
        return in(i, day.rings) ? day.rings.get(i)[what] : NONE;
    }

    // ---- the day's post

    /** The fewest minutes from p to q, by trying all ways that come to no pole twice. */
    private int fewest(int b, int p, int q, boolean dry, int been) {
        if (p == q) {
            return 0;
        }
        int best = NONE;
        for (int r = 0; r < ropes.size(); r++) {
            int there = otherEnd(r, p), minutes = minutes(b, r, 0, dry);
            if (there != NONE && (been >> there & 1) == 0 && minutes != NONE) {
                int rest = fewest(b, there, q, dry, been | 1 << there);
                if (rest != NONE && (best == NONE || minutes + rest < best)) {
                    best = minutes + rest;
                }
            }
        }
        return best;
    }

    int far(int b, int p, int q) {
        if (!in(b, boys) || !in(p, poles) || !in(q, poles)) {
            return UNKNOWN;
        }
        return fewest(b, p, q, false, 1 << p);
    }

    int round(int b, int set) {
        if (!in(b, boys) || set < 0 || set >= 1 << loads.size()) {
            return UNKNOWN;
        }
        return roundOf(b, set & ~deliveredOnes());
    }

    /** Minutes, pole, what still lies, what is carried: the soonest first, each step a load taken up or a rope gone. */
    private int roundOf(int b, int set) {
        if (set == 0) {
            return 0;
        }
        PriorityQueue<int[]> open = new PriorityQueue<>((one, other) -> Integer.compare(one[0], other[0]));
        Set<Integer> done = new HashSet<>();
        open.add(new int[] {day.boys[b][2], day.boys[b][3], set, 0});
        while (!open.isEmpty()) {
            int[] now = open.poll();
            if ((now[2] | now[3]) == 0) {
                return now[0];
            }
            if (done.add(now[1] << 8 | now[2] << 4 | now[3])) {
                step(b, now, open);
            }
        }
        return NONE;
    }

    private void step(int b, int[] now, PriorityQueue<int[]> open) {
        for (int l = 0; l < loads.size(); l++) {
            int lies = day.loads[l][0] == NONE ? loads.get(l)[0] : day.loads[l][0];
            if ((now[2] >> l & 1) == 1 && lies == now[1] && Integer.bitCount(now[3]) < 2) {
                open.add(new int[] {now[0], now[1], now[2] & ~(1 << l), now[3] | 1 << l});
            }
        }
        for (int r = 0; r < ropes.size(); r++) {
            int there = otherEnd(r, now[1]), minutes = minutes(b, r, now[3], false);
            if (there != NONE && minutes != NONE) {
                int brought = set(loads.size(), l -> loads.get(l)[1] == there);
                open.add(new int[] {now[0] + minutes, there, now[2], now[3] & ~brought});
            }
        }
    }

    private int bestLongest;
    private int[] bestDeal;

    int dealt(int l) {
        if (l != NONE && !in(l, loads)) {
            return UNKNOWN;
        }
        int[][] rounds = new int[boys.size()][1 << loads.size()];
        for (int[] row : rounds) {
            Arrays.fill(row, -2);
        }
        bestLongest = NONE;
        bestDeal = null;
        deal(0, new int[loads.size()], rounds);
        if (bestDeal == null) {
            return NONE;
        }
        return l == NONE ? bestLongest : bestDeal[l];
    }

    private void deal(int l, int[] whose, int[][] rounds) {
        if (l < loads.size() && day.loads[l][2] == 1) {
            whose[l] = NONE;
            deal(l + 1, whose, rounds);
        } else if (l < loads.size()) {
            for (int b = 0; b < boys.size(); b++) {
                whose[l] = b;
                deal(l + 1, whose, rounds);
            }
        } else {
            int longest = longest(whose, rounds);
            if (longest != NONE && (bestDeal == null || longest < bestLongest)) {
                bestLongest = longest;
                bestDeal = whose.clone();
            }
        }
    }

    private int longest(int[] whose, int[][] rounds) {
        int longest = 0;
        for (int b = 0; b < boys.size(); b++) {
            int boy = b, his = set(loads.size(), l -> whose[l] == boy);
            if (rounds[b][his] == -2) {
                rounds[b][his] = roundOf(b, his);
            }
            if (rounds[b][his] == NONE) {
                return NONE;
            }
            longest = Math.max(longest, rounds[b][his]);
        }
        return longest;
    }

    // ---- ropes

    private int reached(int from, int set) {
        int reached = 1 << from;
        for (int turn = 0; turn < poles.size(); turn++) {
            for (int r = 0; r < ropes.size(); r++) {
                int ends = 1 << ropes.get(r)[0] | 1 << ropes.get(r)[1];
                reached |= (set >> r & 1) == 1 && (ends & reached) != 0 ? ends : 0;
            }
        }
        return reached;
    }

    private boolean joined(int set, int told) {
        return told == 0 || (told & ~reached(Integer.numberOfTrailingZeros(told), set)) == 0;
    }

    int kept(int told) {
        if (told < 0 || told >= 1 << poles.size()) {
            return UNKNOWN;
        }
        int best = NONE;
        for (int set = 0; set < 1 << ropes.size(); set++) {
            boolean fewer = best == NONE || Integer.bitCount(set) < Integer.bitCount(best);
            if (fewer && (set & ~wholeOnes()) == 0 && joined(set, told) && joinedIfOneIsCut(set, told)) {
                best = set;
            }
        }
        return best;
    }

    private boolean joinedIfOneIsCut(int set, int told) {
        for (int r = 0; r < ropes.size(); r++) {
            if ((set >> r & 1) == 1 && !joined(set & ~(1 << r), told)) {
                return false;
            }
        }
        return true;
    }

    private int apart(int p, int q) {
        return Math.abs(poles.get(p)[0] - poles.get(q)[0]) + Math.abs(poles.get(p)[1] - poles.get(q)[1]);
    }

    private boolean wholeBetween(int p, int q) {
        for (int r = 0; r < ropes.size(); r++) {
            if (day.whole[r] && otherEnd(r, p) == q) {
                return true;
            }
        }
        return false;
    }

    int newRope(int what) {
        int[] best = {NONE, NONE, NONE};
        for (int p = 0; p < poles.size(); p++) {
            for (int q = p + 1; q < poles.size(); q++) {
                if (apart(p, q) < 1 || apart(p, q) > 99 || wholeBetween(p, q)) {
                    continue;
                }
                int sum = sumOfFeet(p, q);
                if (best[2] == NONE || sum < best[2]) {
                    best = new int[] {p, q, sum};
                }
            }
        }
        return pick(what, best);
    }

    private int sumOfFeet(int newFrom, int newTo) {
        int sum = 0;
        for (int p = 0; p < poles.size(); p++) {
            int[] feet = new int[poles.size()];
            Arrays.fill(feet, 999);
            feet[p] = 0;
            for (int turn = 0; turn < poles.size(); turn++) {
                shorten(feet, newFrom, newTo, apart(newFrom, newTo));
                for (int r = 0; r < ropes.size(); r++) {
                    if (day.whole[r]) {
                        shorten(feet, ropes.get(r)[0], ropes.get(r)[1], ropes.get(r)[2]);
                    }
                }
            }
            for (int q = p + 1; q < poles.size(); q++) {
                sum += feet[q];
            }
        }
        return sum;
    }

    private static void shorten(int[] feet, int p, int q, int length) {
        feet[q] = Math.min(feet[q], feet[p] + length);
        feet[p] = Math.min(feet[p], feet[q] + length);
    }

    // ---- throws, sightings

    int odds(int p, int q, int wind) {
        if (!in(p, poles) || !in(q, poles) || p == q) {
            return UNKNOWN;
        }
        return wind < 0 || wind > 99 ? OUTSIDE : Math.max(0, 100 - apart(p, q) - wind);
    }

    int pays(int l, int b, int p, int q, int wind, int c) {
        if (!in(l, loads) || !in(b, boys) || !in(p, poles) || !in(q, poles) || p == q) {
            return UNKNOWN;
        }
        if (wind < 0 || wind > 99 || c < 0 || c > 99) {
            return OUTSIDE;
        }
        int odds = odds(p, q, wind), far = far(b, p, q), lost = loads.get(l)[3] * (100 - odds) / 100;
        return far == NONE ? odds > 0 ? 1 : 0 : lost < far * c ? 1 : 0;
    }

    int see(int b, int p, int minute) {
        if (!in(b, boys) || !in(p, poles)) {
            return UNKNOWN;
        }
        if (minute < 0 || minute > 9999) {
            return OUTSIDE;
        }
        if (sightings.size() == 20) {
            return FULL;
        }
        sightings.add(new int[] {b, p, minute});
        return sightings.size();
    }

    int forget() {
        int were = sightings.size();
        sightings.clear();
        return were;
    }

    int who(int p, int minute) {
        if (!in(p, poles)) {
            return UNKNOWN;
        }
        return minute < 0 || minute > 9999 ? OUTSIDE : set(boys.size(), b -> could(b, p, minute));
    }

    private boolean could(int b, int p, int minute) {
        // Of one minute the one told last is ahead, the one told first is behind: a stable sort by minute has them so.
        List<int[]> his = new ArrayList<>();
        for (int[] one : sightings) {
            if (one[0] == b) {
                his.add(one);
            }
        }
        his.sort((one, other) -> Integer.compare(one[2], other[2]));
        int[] ahead = {b, boys.get(b)[0], 0}, behind = null;
        for (int[] one : his) {
            if (one[2] <= minute) {
                ahead = one;
            } else if (behind == null) {
                behind = one;
            }
        }
        return inTime(ahead, new int[] {b, p, minute}) && (behind == null || inTime(new int[] {b, p, minute}, behind));
    }

    private boolean inTime(int[] from, int[] to) {
        int far = fewest(from[0], from[1], to[1], true, 1 << from[1]);
        return far != NONE && from[2] + far <= to[2];
    }

    int judge() {
        for (int i = 0; i < sightings.size(); i++) {
            int[] one = sightings.get(i), ahead = {one[0], boys.get(one[0])[0], 0};
            for (int k = 0; k < i; k++) {
                ahead = sightings.get(k)[0] == one[0] ? sightings.get(k) : ahead;
            }
            if (!inTime(ahead, one)) {
                return i;
            }
        }
        return NONE;
    }

    // ---- draws, images

    int seed(int v) {
        if (v < 0) {
            return OUTSIDE;
        }
        int was = (int) day.seed;
        day.seed = v;
        return was;
    }

    int keep(int i) {
        if (i < 0 || i > 1) {
            return UNKNOWN;
        }
        images[i] = day.copy();
        return 1;
    }

    int goBack(int i) {
        if (i < 0 || i > 1) {
            return UNKNOWN;
        }
        if (images[i] == null) {
            return NOT;
        }
        day = images[i].copy();
        return 1;
    }
}
