import java.util.ArrayDeque;
import java.util.Arrays;
import java.util.HashMap;
import java.util.Map;
import java.util.PriorityQueue;
import java.util.Random;

/**
 * Drawn towns and drawn calls: far, round, dealt, kept, newRope, who and judge against searches that are slow and plain.
 * What is so is read by the public face; only where a boy goes to and where things were told is noted here.
 */
public final class OracleTest {
    private static final int NONE = RopePost.NONE;

    private final Random random;
    private final RopePost post;
    private final int poles, ropes, boys, loads;
    private final int[] home, from, goal;
    private final int[][] seen = new int[20][];
    private int sightings = 0;

    public static void main(String[] args) {
        for (int seed = 0; seed < 1500; seed++) {
            new OracleTest(seed).run();
        }
        Check.end("OracleTest");
    }

    private OracleTest(int seed) {
        random = new Random(seed);
        StringBuilder text = new StringBuilder();
        poles = 2 + random.nextInt(7);
        int[] bears = new int[poles];
        int spread = random.nextInt(4) == 0 ? 100 : 12;
        for (int p = 0; p < poles; p++) {
            bears[p] = 1 + random.nextInt(5);
            text.append("pole ").append(random.nextInt(spread)).append(' ').append(random.nextInt(spread));
            text.append(' ').append(bears[p]).append(';');
        }
        ropes = random.nextInt(13);
        for (int r = 0; r < ropes; r++) {
            int p = random.nextInt(poles);
            text.append("rope ").append(p).append(' ').append((p + 1 + random.nextInt(poles - 1)) % poles);
            text.append(' ').append(1 + random.nextInt(40)).append(' ').append(60 + random.nextInt(90)).append(';');
        }
        int wanted = random.nextInt(5);
        home = new int[wanted];
        int told = 0;
        for (int b = 0; b < wanted; b++) {
            int p = random.nextInt(poles);
            if (bears[p] > 0) {
                bears[p]--;
                home[told++] = p;
                text.append("boy ").append(p).append(' ').append(40 + random.nextInt(60));
                text.append(' ').append(1 + random.nextInt(15)).append(';');
            }
        }
        boys = told;
        goal = home.clone();
        loads = random.nextInt(5);
        from = new int[loads];
        String[] kinds = {"plain", "alive", "level", "long"};
        for (int l = 0; l < loads; l++) {
            from[l] = random.nextInt(poles);
            text.append("load ").append(from[l]).append(' ').append((from[l] + 1 + random.nextInt(poles - 1)) % poles);
            text.append(' ').append(random.nextInt(40)).append(' ').append(random.nextInt(1000)).append(' ');
            text.append(kinds[random.nextInt(4)]).append(';');
        }
        post = Check.town(text.toString());
        Check.due("poles of " + text, post.told(0), poles);
    }

    private void run() {
        for (int k = 0; k < 24; k++) {
            act();
            if (k % 4 == 3) {
                compare();
            }
        }
    }

    private void act() {
        int b = boys == 0 ? 0 : random.nextInt(boys);
        int r = ropes == 0 ? 0 : random.nextInt(ropes);
        switch (random.nextInt(9)) {
            case 0:
            case 1:
            case 2:
                int pole = post.boy(b, 0);
                if (post.go(b, r) >= 0) {
                    goal[b] = post.rope(r, 0) == pole ? post.rope(r, 1) : post.rope(r, 0);
                }
                break;
            case 3:
                post.take(b, loads == 0 ? 0 : random.nextInt(loads));
                break;
            case 4:
                post.lay(b, loads == 0 ? 0 : random.nextInt(loads));
                break;
            case 5:
                post.pass(1 + random.nextInt(6));
                break;
            case 6:
                post.wet(r, random.nextBoolean());
                break;
            case 7:
                if (random.nextInt(3) == 0) {
                    post.cut(r);
                } else {
                    post.splice(r);
                }
                break;
            default:
                sight(b);
        }
    }

    private void sight(int b) {
        int p = random.nextInt(poles), minute = random.nextInt(40);
        if (boys > 0 && sightings < 20 && post.see(b, p, minute) > 0) {
            seen[sightings++] = new int[] {b, p, minute};
        }
    }

    private void compare() {
        int b = boys == 0 ? 0 : random.nextInt(boys);
        int p = random.nextInt(poles), q = random.nextInt(poles);
        if (boys > 0) {
            Check.due("far", post.far(b, p, q), far(b, p, q, false));
            int set = random.nextInt(1 << loads);
            Check.due("round", post.round(b, set), round(b, set));
        }
        compareDealt();
        int set = random.nextInt(1 << poles);
        Check.due("kept " + set, post.kept(set), kept(set));
        int[] rope = newRope();
        for (int what = 0; what < 3; what++) {
            Check.due("newRope " + what, post.newRope(what), rope[what]);
        }
        int minute = random.nextInt(45);
        Check.due("who", post.who(p, minute), who(p, minute));
        Check.due("judge", post.judge(), judge());
    }

    /** NONE: he may not go on it with that. */
    private int minutes(int b, int r, int carried, boolean dry) {
        int pounds = post.boy(b, 3);
        boolean level = false, longOne = false;
        for (int l = 0; l < loads; l++) {
            if ((carried >> l & 1) == 1) {
                pounds += post.load(l, 2);
                level |= post.load(l, 4) == 2;
                longOne |= post.load(l, 4) == 3;
            }
        }
        int feet = post.rope(r, 2);
        if (post.rope(r, 6) == 0 || pounds > post.rope(r, 3) || longOne && feet < 20) {
            return NONE;
        }
        int pace = post.boy(b, 4);
        int minutes = feet / pace + (feet % pace == 0 ? 0 : 1);
        if (level) {
            minutes += minutes < 2 ? 1 : minutes / 2;
        }
        return post.rope(r, 5) == 1 && !dry ? minutes + minutes : minutes;
    }

    private int other(int r, int p) {
        int a = post.rope(r, 0), z = post.rope(r, 1);
        return a == p ? z : z == p ? a : NONE;
    }

    private int far(int b, int p, int q, boolean dry) {
        int[] least = new int[poles];
        Arrays.fill(least, Integer.MAX_VALUE);
        least[p] = 0;
        ArrayDeque<Integer> open = new ArrayDeque<>();
        open.add(p);
        while (!open.isEmpty()) {
            int here = open.poll();
            for (int r = 0; r < ropes; r++) {
                int there = other(r, here), minutes = minutes(b, r, 0, dry);
                if (there != NONE && minutes != NONE && least[here] + minutes < least[there]) {
                    least[there] = least[here] + minutes;
                    open.add(there);
                }
            }
        }
        return least[q] == Integer.MAX_VALUE ? NONE : least[q];
    }

    /** A state: the pole in the low three bits, then two bits a load: 0 lies, 1 carried, 2 delivered. */
    private int round(int b, int set) {
        int start = goal[b], all = 0;
        for (int l = 0; l < loads; l++) {
            all |= 2 << 3 + 2 * l;
            if ((set >> l & 1) == 0 || post.load(l, 6) == 1) {
                start |= 2 << 3 + 2 * l;
            }
        }
        if ((start & ~7) == all) {
            return 0;
        }
        Map<Integer, Integer> least = new HashMap<>();
        PriorityQueue<int[]> open = new PriorityQueue<>((u, v) -> Integer.compare(u[0], v[0]));
        open.add(new int[] {post.boy(b, 2), start});
        while (!open.isEmpty()) {
            int[] next = open.poll();
            if (least.putIfAbsent(next[1], next[0]) != null) {
                continue;
            }
            if ((next[1] & ~7) == all) {
                return next[0];
            }
            step(b, next, open);
        }
        return NONE;
    }

    private void step(int b, int[] now, PriorityQueue<int[]> open) {
        int pole = now[1] & 7, carried = 0;
        for (int l = 0; l < loads; l++) {
            carried |= (now[1] >> 3 + 2 * l & 3) == 1 ? 1 << l : 0;
        }
        for (int l = 0; l < loads; l++) {
            int lies = post.load(l, 0) == NONE ? from[l] : post.load(l, 0);
            if ((now[1] >> 3 + 2 * l & 3) == 0 && lies == pole && Integer.bitCount(carried) < 2) {
                open.add(new int[] {now[0], now[1] + (1 << 3 + 2 * l)});
            }
        }
        for (int r = 0; r < ropes; r++) {
            int there = other(r, pole), minutes = minutes(b, r, carried, false);
            if (there == NONE || minutes == NONE) {
                continue;
            }
            int state = now[1] & ~7 | there;
            for (int l = 0; l < loads; l++) {
                if ((carried >> l & 1) == 1 && post.load(l, 1) == there) {
                    state += 1 << 3 + 2 * l;
                }
            }
            open.add(new int[] {now[0] + minutes, state});
        }
    }

    private int[] bestDeal;
    private int bestLongest;

    private void compareDealt() {
        int[][] rounds = new int[boys][1 << loads];
        for (int b = 0; b < boys; b++) {
            for (int set = 0; set < 1 << loads; set++) {
                rounds[b][set] = round(b, set);
            }
        }
        bestDeal = null;
        bestLongest = Integer.MAX_VALUE;
        deal(0, new int[loads], rounds);
        Check.due("dealt", post.dealt(NONE), bestDeal == null ? NONE : bestLongest);
        for (int l = 0; l < loads; l++) {
            Check.due("dealt " + l, post.dealt(l), bestDeal == null ? NONE : bestDeal[l]);
        }
    }

    private void deal(int l, int[] whose, int[][] rounds) {
        if (l == loads) {
            weigh(whose, rounds);
        } else if (post.load(l, 6) == 1) {
            whose[l] = NONE;
            deal(l + 1, whose, rounds);
        } else {
            for (int b = 0; b < boys; b++) {
                whose[l] = b;
                deal(l + 1, whose, rounds);
            }
        }
    }

    private void weigh(int[] whose, int[][] rounds) {
        int longest = 0;
        for (int b = 0; b < boys; b++) {
            int set = 0;
            for (int l = 0; l < loads; l++) {
                set |= whose[l] == b ? 1 << l : 0;
            }
            if (rounds[b][set] == NONE) {
                return;
            }
            longest = Math.max(longest, rounds[b][set]);
        }
        if (longest < bestLongest) {
            bestLongest = longest;
            bestDeal = whose.clone();
        }
    }

    private int kept(int told) {
        int best = NONE;
        for (int set = 0; set < 1 << ropes; set++) {
            boolean fewer = best == NONE || Integer.bitCount(set) < Integer.bitCount(best);
            if (fewer && (set & ~post.told(10)) == 0 && joined(set, told) && joinedWhateverIsCut(set, told)) {
                best = set;
            }
        }
        return best;
    }

    private boolean joinedWhateverIsCut(int set, int told) {
        for (int r = 0; r < ropes; r++) {
            if ((set >> r & 1) == 1 && !joined(set & ~(1 << r), told)) {
                return false;
            }
        }
        return true;
    }

    private boolean joined(int set, int told) {
        int[] root = new int[poles];
        for (int p = 0; p < poles; p++) {
            root[p] = p;
        }
        for (int r = 0; r < ropes; r++) {
            if ((set >> r & 1) == 1) {
                int old = root[post.rope(r, 0)], next = root[post.rope(r, 1)];
                for (int p = 0; p < poles; p++) {
                    root[p] = root[p] == old ? next : root[p];
                }
            }
        }
        int one = NONE;
        for (int p = 0; p < poles; p++) {
            if ((told >> p & 1) == 1) {
                if (one != NONE && root[p] != one) {
                    return false;
                }
                one = root[p];
            }
        }
        return true;
    }

    private int[] newRope() {
        int[] best = {NONE, NONE, NONE};
        for (int p = 0; p < poles; p++) {
            for (int q = p + 1; q < poles; q++) {
                int apart = Math.abs(post.pole(p, 0) - post.pole(q, 0)) + Math.abs(post.pole(p, 1) - post.pole(q, 1));
                boolean there = false;
                for (int r = 0; r < ropes; r++) {
                    there |= post.rope(r, 6) == 1 && other(r, p) == q;
                }
                if (there || apart < 1 || apart > 99) {
                    continue;
                }
                int sum = sumOfFeet(p, q, apart);
                if (best[2] == NONE || sum < best[2]) {
                    best = new int[] {p, q, sum};
                }
            }
        }
        return best;
    }

    private int sumOfFeet(int from, int to, int feet) {
        int[][] least = new int[poles][poles];
        for (int p = 0; p < poles; p++) {
            Arrays.fill(least[p], 9999);
            least[p][p] = 0;
        }
        least[from][to] = feet;
        least[to][from] = feet;
        for (int r = 0; r < ropes; r++) {
            if (post.rope(r, 6) == 1) {
                int a = post.rope(r, 0), z = post.rope(r, 1);
                least[a][z] = Math.min(least[a][z], post.rope(r, 2));
                least[z][a] = least[a][z];
            }
        }
        int sum = 0;
        for (int turn = 0; turn < poles; turn++) {
            sum = 0;
            for (int p = 0; p < poles; p++) {
                for (int q = 0; q < poles; q++) {
                    for (int by = 0; by < poles; by++) {
                        least[p][q] = Math.min(least[p][q], least[p][by] + least[by][q]);
                    }
                    sum += Math.min(999, least[p][q]);
                }
            }
        }
        return sum / 2;
    }

    private int who(int p, int minute) {
        int set = 0;
        for (int b = 0; b < boys; b++) {
            int[] ahead = {b, home[b], 0}, behind = null;
            boolean any = false;
            for (int i = 0; i < sightings; i++) {
                int[] one = seen[i];
                if (one[0] == b && one[2] <= minute && (!any || one[2] >= ahead[2])) {
                    ahead = one;
                    any = true;
                }
                if (one[0] == b && one[2] > minute && (behind == null || one[2] < behind[2])) {
                    behind = one;
                }
            }
            int come = far(b, ahead[1], p, true);
            int leave = behind == null ? 0 : far(b, p, behind[1], true);
            boolean inTime = come != NONE && ahead[2] + come <= minute;
            boolean onTime = behind == null || leave != NONE && minute + leave <= behind[2];
            set |= inTime && onTime ? 1 << b : 0;
        }
        return set;
    }

    private int judge() {
        int[][] last = new int[boys][];
        for (int b = 0; b < boys; b++) {
            last[b] = new int[] {b, home[b], 0};
        }
        for (int i = 0; i < sightings; i++) {
            int[] one = seen[i], ahead = last[one[0]];
            int far = far(one[0], ahead[1], one[1], true);
            if (one[2] < ahead[2] || far == NONE || far > one[2] - ahead[2]) {
                return i;
            }
            last[one[0]] = one;
        }
        return NONE;
    }
}
