import java.util.Arrays;

/** Post along the ropes: a town of houses on poles, told in a text, and the boys who carry its post. */
public final class RopePost {
    public static final int NONE = -1, UNKNOWN = -1000000001, OUTSIDE = -1000000002, NOT = -1000000003, FULL = -1000000004;

    private static final int POLES = 8, ROPES = 12, BOYS = 4, LOADS = 4;
    private static final int TEXT_BYTES = 500, RINGS = 200, SIGHTINGS = 20, IMAGES = 2;
    private static final int PLAIN = 0, ALIVE = 1, LEVEL = 2, LONG = 3;
    private static final int MOST_CARRIED = 2, BREAKING_WEAR = 100, SHORTEST_FOR_LONG = 20, ALIVE_UNTIL = 60;
    private static final int MOST_PASSED = 99, LAST_MINUTE = 9999, MOST_WIND = 99, MOST_PRICE = 99;
    private static final int LONGEST_ROPE = 99, NOT_JOINED = 999;
    /** Above every sum of minutes or feet that can be, and so low that a few of it never overflow. */
    private static final int FAR_OFF = 1000000;

    private final Reader reader = new Reader();
    private Plan plan = new Plan();
    /** The text is read into this one, so that a fault leaves the town as it was. */
    private Plan nextPlan = new Plan();
    private final State now = new State();
    private final State[] images = new State[IMAGES];
    private int imagesKept = 0;
    private final Book book = new Book();
    private final Ways ways = new Ways();
    private final Rounds rounds = new Rounds();
    private final Dealer dealer = new Dealer();

    public RopePost() {
        for (int i = 0; i < IMAGES; i++) {
            images[i] = new State();
        }
        now.begin(plan);
    }

    // ---- the town

    public int feed(int n, long bytes) {
        if (n < 1 || n > 8) {
            return OUTSIDE;
        }
        if (reader.length + n > TEXT_BYTES) {
            return FULL;
        }
        for (int k = n - 1; k >= 0; k--) {
            reader.append((byte) (bytes >>> (8 * k)));
        }
        return reader.length;
    }

    public int town() {
        boolean sound = reader.read(nextPlan);
        reader.length = 0;
        if (!sound) {
            return -10 - reader.fault;
        }
        Plan old = plan;
        plan = nextPlan;
        nextPlan = old;
        now.begin(plan);
        book.count = 0;
        imagesKept = 0;
        return plan.poles;
    }

    public int fault() {
        return reader.faultAt;
    }

    public int told(int what) {
        switch (what) {
            case 0: return plan.poles;
            case 1: return plan.ropes;
            case 2: return plan.boys;
            case 3: return plan.loads;
            case 4: return reader.length;
            case 5: return now.minute;
            case 6: return now.had;
            case 7: return now.delivered;
            case 8: return now.rings;
            case 9: return book.count;
            case 10: return now.whole;
            default: return OUTSIDE;
        }
    }

    public int pole(int p, int what) {
        if (!isPole(p)) {
            return UNKNOWN;
        }
        switch (what) {
            case 0: return plan.x[p];
            case 1: return plan.y[p];
            case 2: return plan.bears[p];
            case 3: return now.boysAt(p, plan.boys);
            case 4: return now.loadsAt(p, plan.loads);
            default: return OUTSIDE;
        }
    }

    public int rope(int r, int what) {
        if (!isRope(r)) {
            return UNKNOWN;
        }
        switch (what) {
            case 0: return plan.ropeFrom[r];
            case 1: return plan.ropeTo[r];
            case 2: return plan.feet[r];
            case 3: return plan.carries[r];
            case 4: return now.wear[r];
            case 5: return bit(now.wet, r);
            case 6: return bit(now.whole, r);
            case 7: return now.boyOn(r, plan.boys);
            default: return OUTSIDE;
        }
    }

    public int boy(int b, int what) {
        if (!isBoy(b)) {
            return UNKNOWN;
        }
        switch (what) {
            case 0: return now.isOnRope(b) ? NONE : now.boyEnd[b];
            case 1: return now.boyRope[b];
            case 2: return now.boyLeft[b];
            case 3: return plan.boyPounds[b];
            case 4: return plan.pace[b];
            case 5: return now.carriedBy(b, plan.loads);
            default: return OUTSIDE;
        }
    }

    public int load(int l, int what) {
        if (!isLoad(l)) {
            return UNKNOWN;
        }
        switch (what) {
            case 0: return now.loadPole[l];
            case 1: return plan.loadTo[l];
            case 2: return plan.loadPounds[l];
            case 3: return plan.worth[l];
            case 4: return plan.kind[l];
            case 5: return now.loadBoy[l];
            case 6: return bit(now.delivered, l);
            default: return OUTSIDE;
        }
    }

    // ---- minutes

    public int go(int b, int r) {
        if (!isBoy(b) || !isRope(r)) {
            return UNKNOWN;
        }
        if (now.isOnRope(b) || now.boyOn(r, plan.boys) != NONE) {
            return NOT;
        }
        int end = plan.otherEnd(r, now.boyEnd[b]);
        int minutes = minutesOn(r, b, now.carriedBy(b, plan.loads), false);
        if (end == NONE || minutes == NONE) {
            return NOT;
        }
        now.boyEnd[b] = end;
        now.boyRope[b] = r;
        now.boyLeft[b] = minutes;
        now.addRing(r);
        return minutes;
    }

    public int take(int b, int l) {
        if (!isBoy(b) || !isLoad(l)) {
            return UNKNOWN;
        }
        int carried = Integer.bitCount(now.carriedBy(b, plan.loads));
        if (now.isOnRope(b) || now.loadPole[l] != now.boyEnd[b] || carried >= MOST_CARRIED) {
            return NOT;
        }
        now.loadPole[l] = NONE;
        now.loadBoy[l] = b;
        return carried + 1;
    }

    public int lay(int b, int l) {
        if (!isBoy(b) || !isLoad(l)) {
            return UNKNOWN;
        }
        if (now.isOnRope(b) || now.loadBoy[l] != b) {
            return NOT;
        }
        now.loadPole[l] = now.boyEnd[b];
        now.loadBoy[l] = NONE;
        return Integer.bitCount(now.carriedBy(b, plan.loads));
    }

    public int pass(int n) {
        if (n < 1 || n > MOST_PASSED) {
            return OUTSIDE;
        }
        for (int k = 0; k < n; k++) {
            passMinute();
        }
        return now.delivered;
    }

    public int cut(int r) {
        if (!isRope(r)) {
            return UNKNOWN;
        }
        if (!has(now.whole, r) || now.boyOn(r, plan.boys) != NONE) {
            return NOT;
        }
        now.whole &= ~(1 << r);
        return 1;
    }

    public int splice(int r) {
        if (!isRope(r)) {
            return UNKNOWN;
        }
        if (has(now.whole, r)) {
            return NOT;
        }
        now.whole |= 1 << r;
        now.wear[r] = 0;
        return 1;
    }

    public int wet(int r, boolean is) {
        if (!isRope(r)) {
            return UNKNOWN;
        }
        int was = bit(now.wet, r);
        now.setWet(r, is);
        return was;
    }

    public int storm(int q) {
        if (q < 0 || q > 100) {
            return OUTSIDE;
        }
        int before = now.whole;
        for (int r = 0; r < plan.ropes; r++) {
            if (has(now.whole, r) && now.boyOn(r, plan.boys) == NONE && now.draw(100) < q) {
                now.addWear(r, now.draw(40));
            }
        }
        for (int r = 0; r < plan.ropes; r++) {
            now.setWet(r, now.draw(2) == 1);
        }
        return before & ~now.whole;
    }

    public int ring(int i, int what) {
        if (what < 0 || what > 1) {
            return OUTSIDE;
        }
        if (i < 0 || i >= now.rings) {
            return NONE;
        }
        return what == 0 ? now.ringMinute[i] : now.ringRope[i];
    }

    // ---- the day's post

    public int far(int b, int p, int q) {
        if (!isBoy(b) || !isPole(p) || !isPole(q)) {
            return UNKNOWN;
        }
        return orNone(minutesBetween(b, p, q, false));
    }

    public int round(int b, int loads) {
        if (!isBoy(b) || !isSetBelow(loads, plan.loads)) {
            return UNKNOWN;
        }
        int live = loads & ~now.delivered;
        learnRounds(b, live);
        return orNone(roundOf(b, live));
    }

    public int dealt(int l) {
        if (l != NONE && !isLoad(l)) {
            return UNKNOWN;
        }
        int live = (1 << plan.loads) - 1 & ~now.delivered;
        for (int b = 0; b < plan.boys; b++) {
            learnRounds(b, live);
            for (int loads = 0; loads <= live; loads++) {
                dealer.setRound(b, loads, (loads & ~live) == 0 ? roundOf(b, loads) : FAR_OFF);
            }
        }
        dealer.deal(plan.boys, live);
        return l == NONE ? orNone(dealer.longest) : dealer.boyOf(l, live);
    }

    // ---- ropes

    public int kept(int poles) {
        if (!isSetBelow(poles, plan.poles)) {
            return UNKNOWN;
        }
        int told = Integer.bitCount(poles);
        if (told < 2) {
            return 0;
        }
        // More ropes never harm: where all the whole ones do not do, none do.
        if (!outlivesCuts(now.whole, poles)) {
            return NONE;
        }
        // A pole that outlives each cut has two ropes at least, so there are no fewer ropes than poles.
        for (int count = told; count <= plan.ropes; count++) {
            for (int ropes = 0; ropes <= now.whole; ropes++) {
                if ((ropes & ~now.whole) == 0 && Integer.bitCount(ropes) == count && outlivesCuts(ropes, poles)) {
                    return ropes;
                }
            }
        }
        return NONE;
    }

    public int newRope(int what) {
        if (what < 0 || what > 2) {
            return OUTSIDE;
        }
        int best = leastNewRope();
        if (best == NONE) {
            return NONE;
        }
        switch (what) {
            case 0: return best / POLES % POLES;
            case 1: return best % POLES;
            default: return best / (POLES * POLES);
        }
    }

    // ---- throws, sightings

    public int odds(int p, int q, int wind) {
        if (!isPole(p) || !isPole(q) || p == q) {
            return UNKNOWN;
        }
        if (wind < 0 || wind > MOST_WIND) {
            return OUTSIDE;
        }
        return throwOdds(p, q, wind);
    }

    public int pays(int l, int b, int p, int q, int wind, int c) {
        if (!isLoad(l) || !isBoy(b) || !isPole(p) || !isPole(q) || p == q) {
            return UNKNOWN;
        }
        if (wind < 0 || wind > MOST_WIND || c < 0 || c > MOST_PRICE) {
            return OUTSIDE;
        }
        int odds = throwOdds(p, q, wind);
        int minutes = minutesBetween(b, p, q, false);
        if (minutes >= FAR_OFF) {
            return odds > 0 ? 1 : 0;
        }
        int lost = plan.worth[l] * (100 - odds) / 100;
        return lost < minutes * c ? 1 : 0;
    }

    public int see(int b, int p, int minute) {
        if (!isBoy(b) || !isPole(p)) {
            return UNKNOWN;
        }
        if (minute < 0 || minute > LAST_MINUTE) {
            return OUTSIDE;
        }
        if (book.count >= SIGHTINGS) {
            return FULL;
        }
        book.add(b, p, minute);
        return book.count;
    }

    public int forget() {
        int were = book.count;
        book.count = 0;
        return were;
    }

    public int who(int p, int minute) {
        if (!isPole(p)) {
            return UNKNOWN;
        }
        if (minute < 0 || minute > LAST_MINUTE) {
            return OUTSIDE;
        }
        int boys = 0;
        for (int b = 0; b < plan.boys; b++) {
            if (canHaveBeen(b, p, minute)) {
                boys |= 1 << b;
            }
        }
        return boys;
    }

    public int judge() {
        for (int i = 0; i < book.count; i++) {
            if (isWrong(i)) {
                return i;
            }
        }
        return NONE;
    }

    // ---- draws, images

    public int seed(int v) {
        if (v < 0) {
            return OUTSIDE;
        }
        int was = now.seed;
        now.seed = v;
        return was;
    }

    public int keep(int i) {
        if (i < 0 || i >= IMAGES) {
            return UNKNOWN;
        }
        images[i].copy(now);
        imagesKept |= 1 << i;
        return 1;
    }

    public int goBack(int i) {
        if (i < 0 || i >= IMAGES) {
            return UNKNOWN;
        }
        if (!has(imagesKept, i)) {
            return NOT;
        }
        now.copy(images[i]);
        return 1;
    }

    // ---- what there is

    private boolean isPole(int p) {
        return p >= 0 && p < plan.poles;
    }

    private boolean isRope(int r) {
        return r >= 0 && r < plan.ropes;
    }

    private boolean isBoy(int b) {
        return b >= 0 && b < plan.boys;
    }

    private boolean isLoad(int l) {
        return l >= 0 && l < plan.loads;
    }

    private static boolean isSetBelow(int set, int count) {
        return set >= 0 && set < 1 << count;
    }

    private static boolean has(int set, int k) {
        return (set >> k & 1) == 1;
    }

    private static int bit(int set, int k) {
        return set >> k & 1;
    }

    private static int orNone(int sum) {
        return sum >= FAR_OFF ? NONE : sum;
    }

    // ---- ropes and minutes

    private boolean mayBeGone(int r, int b, int loads) {
        if (!has(now.whole, r) || plan.boyPounds[b] + plan.poundsOf(loads) > plan.carries[r]) {
            return false;
        }
        return plan.feet[r] >= SHORTEST_FOR_LONG || !plan.anyOfKind(loads, LONG);
    }

    /** NONE: he may not go on it; who is on it is not looked at. */
    private int minutesOn(int r, int b, int loads, boolean asDry) {
        int pace = plan.pace[b];
        if (pace < 1 || !mayBeGone(r, b, loads)) {
            return NONE;
        }
        int minutes = (plan.feet[r] + pace - 1) / pace;
        if (plan.anyOfKind(loads, LEVEL)) {
            minutes += Math.max(1, minutes / 2);
        }
        return has(now.wet, r) && !asDry ? 2 * minutes : minutes;
    }

    private void passMinute() {
        now.minute++;
        for (int b = 0; b < plan.boys; b++) {
            if (now.isOnRope(b)) {
                moveOn(b);
            }
        }
    }

    private void moveOn(int b) {
        now.boyLeft[b]--;
        if (now.boyLeft[b] > 0) {
            return;
        }
        int end = now.boyEnd[b];
        if (Integer.bitCount(now.boysAt(end, plan.boys)) >= plan.bears[end]) {
            now.boyLeft[b] = 1;
            return;
        }
        arrive(b);
    }

    private void arrive(int b) {
        int r = now.boyRope[b];
        // The wear is by what hung on the rope, so it is reckoned ahead of what is delivered.
        int carried = now.carriedBy(b, plan.loads);
        int pounds = plan.boyPounds[b] + plan.poundsOf(carried);
        now.boyRope[b] = NONE;
        for (int l = 0; l < plan.loads; l++) {
            if (has(carried, l) && plan.loadTo[l] == now.boyEnd[b]) {
                deliver(l);
            }
        }
        now.addWear(r, pounds / 10 + 1);
    }

    private void deliver(int l) {
        now.loadBoy[l] = NONE;
        now.delivered |= 1 << l;
        if (plan.kind[l] != ALIVE || now.minute <= ALIVE_UNTIL) {
            now.had += plan.worth[l];
        }
    }

    // ---- ways and rounds

    private void spreadMinutes(int b, int loads, boolean asDry) {
        for (int r = 0; r < plan.ropes; r++) {
            ways.cost[r] = minutesOn(r, b, loads, asDry);
        }
        ways.spread(plan);
    }

    private int minutesBetween(int b, int p, int q, boolean asDry) {
        spreadMinutes(b, 0, asDry);
        return ways.between(p, q);
    }

    private void learnRounds(int b, int live) {
        for (int carried = 0; carried <= live; carried++) {
            if (Rounds.canBeCarried(carried, live)) {
                spreadMinutes(b, carried, false);
                rounds.setWays(carried, ways);
            }
        }
        for (int l = 0; l < plan.loads; l++) {
            rounds.from[l] = now.loadPole[l] == NONE ? plan.loadFrom[l] : now.loadPole[l];
            rounds.to[l] = plan.loadTo[l];
        }
        rounds.solve(plan.poles, live);
    }

    /** Behind learnRounds of that boy, for loads among the live ones. */
    private int roundOf(int b, int loads) {
        // Where nothing is to be delivered, he need not come to the end of his rope.
        if (loads == 0) {
            return 0;
        }
        return now.boyLeft[b] + rounds.rest(loads, 0, now.boyEnd[b]);
    }

    // ---- sets of ropes

    private boolean outlivesCuts(int ropes, int poles) {
        // Two ropes at each pole are needed and soon counted; it spares most sets the long look.
        for (int p = 0; p < plan.poles; p++) {
            if (has(poles, p) && Integer.bitCount(ropes & plan.ropesAt[p]) < 2) {
                return false;
            }
        }
        for (int r = 0; r < plan.ropes; r++) {
            if (has(ropes, r) && !joins(ropes & ~(1 << r), poles)) {
                return false;
            }
        }
        return true;
    }

    private boolean joins(int ropes, int poles) {
        int reached = Integer.lowestOneBit(poles);
        boolean grew = true;
        for (int turn = 0; turn < POLES && grew; turn++) {
            grew = false;
            for (int r = 0; r < plan.ropes; r++) {
                int ends = has(ropes, r) ? plan.endsOf(r) : 0;
                if ((ends & reached) != 0 && (ends & ~reached) != 0) {
                    reached |= ends;
                    grew = true;
                }
            }
        }
        return (poles & ~reached) == 0;
    }

    private boolean isJoinedAtOnce(int p, int q) {
        return (plan.ropesAt[p] & plan.ropesAt[q] & now.whole) != 0;
    }

    /** Sum, lesser pole and other pole in one number, so that the least number is the best and first. */
    private int leastNewRope() {
        for (int r = 0; r < plan.ropes; r++) {
            ways.cost[r] = has(now.whole, r) ? plan.feet[r] : NONE;
        }
        ways.spread(plan);
        int best = NONE;
        for (int p = 0; p < plan.poles; p++) {
            for (int q = p + 1; q < plan.poles; q++) {
                int feet = plan.feetApart(p, q);
                if (feet < 1 || feet > LONGEST_ROPE || isJoinedAtOnce(p, q)) {
                    continue;
                }
                int code = (ways.sumWith(p, q, feet) * POLES + p) * POLES + q;
                if (best == NONE || code < best) {
                    best = code;
                }
            }
        }
        return best;
    }

    // ---- throws and sightings

    private int throwOdds(int p, int q, int wind) {
        return Math.max(0, 100 - plan.feetApart(p, q) - wind);
    }

    private boolean canHaveBeen(int b, int p, int minute) {
        int ahead = book.lastUntil(b, minute);
        int behind = book.firstAfter(b, minute);
        int from = ahead == NONE ? plan.home[b] : book.pole[ahead];
        int since = ahead == NONE ? 0 : book.minute[ahead];
        spreadMinutes(b, 0, true);
        if (ways.between(from, p) > minute - since) {
            return false;
        }
        return behind == NONE || ways.between(p, book.pole[behind]) <= book.minute[behind] - minute;
    }

    private boolean isWrong(int i) {
        int b = book.boy[i];
        int ahead = book.toldAhead(i);
        int from = ahead == NONE ? plan.home[b] : book.pole[ahead];
        int since = ahead == NONE ? 0 : book.minute[ahead];
        // As dry as in canHaveBeen: else one could be where it is wrong to have seen him.
        // A lesser minute leaves less than nothing between, and every way is more than that.
        return minutesBetween(b, from, book.pole[i], true) > book.minute[i] - since;
    }

    /** A town as it was told; nothing in it changes until the next one. */
    private static final class Plan {
        int poles, ropes, boys, loads;
        final int[] x = new int[POLES], y = new int[POLES], bears = new int[POLES];
        /** Of each pole the set of ropes that end there. */
        final int[] ropesAt = new int[POLES];
        final int[] ropeFrom = new int[ROPES], ropeTo = new int[ROPES], feet = new int[ROPES], carries = new int[ROPES];
        final int[] home = new int[BOYS], boyPounds = new int[BOYS], pace = new int[BOYS];
        final int[] loadFrom = new int[LOADS], loadTo = new int[LOADS], loadPounds = new int[LOADS];
        final int[] worth = new int[LOADS], kind = new int[LOADS];

        void clear() {
            poles = 0;
            ropes = 0;
            boys = 0;
            loads = 0;
            Arrays.fill(ropesAt, 0);
        }

        int endsOf(int r) {
            return 1 << ropeFrom[r] | 1 << ropeTo[r];
        }

        int otherEnd(int r, int p) {
            if (ropeFrom[r] == p) {
                return ropeTo[r];
            }
            return ropeTo[r] == p ? ropeFrom[r] : NONE;
        }

        int boysTold(int p) {
            int count = 0;
            for (int b = 0; b < boys; b++) {
                count += home[b] == p ? 1 : 0;
            }
            return count;
        }

        int poundsOf(int set) {
            int pounds = 0;
            for (int l = 0; l < loads; l++) {
                pounds += has(set, l) ? loadPounds[l] : 0;
            }
            return pounds;
        }

        boolean anyOfKind(int set, int which) {
            for (int l = 0; l < loads; l++) {
                if (has(set, l) && kind[l] == which) {
                    return true;
                }
            }
            return false;
        }

        int feetApart(int p, int q) {
            return Math.abs(x[p] - x[q]) + Math.abs(y[p] - y[q]);
        }
    }

    /** What changes from call to call and is kept in images. */
    private static final class State {
        int minute, had, seed, whole, wet, delivered, rings;
        final int[] wear = new int[ROPES];
        /** The pole where a boy is or, on a rope, the one to which he goes. */
        final int[] boyEnd = new int[BOYS];
        final int[] boyRope = new int[BOYS], boyLeft = new int[BOYS];
        final int[] loadPole = new int[LOADS], loadBoy = new int[LOADS];
        final int[] ringMinute = new int[RINGS], ringRope = new int[RINGS];

        /** The seed is not of the town: it stays. */
        void begin(Plan plan) {
            minute = 0;
            had = 0;
            whole = (1 << plan.ropes) - 1;
            wet = 0;
            delivered = 0;
            rings = 0;
            Arrays.fill(wear, 0);
            Arrays.fill(boyRope, NONE);
            Arrays.fill(boyLeft, 0);
            Arrays.fill(loadBoy, NONE);
            System.arraycopy(plan.home, 0, boyEnd, 0, BOYS);
            System.arraycopy(plan.loadFrom, 0, loadPole, 0, LOADS);
        }

        void copy(State other) {
            minute = other.minute;
            had = other.had;
            seed = other.seed;
            whole = other.whole;
            wet = other.wet;
            delivered = other.delivered;
            rings = other.rings;
            System.arraycopy(other.wear, 0, wear, 0, ROPES);
            System.arraycopy(other.boyEnd, 0, boyEnd, 0, BOYS);
            System.arraycopy(other.boyRope, 0, boyRope, 0, BOYS);
            System.arraycopy(other.boyLeft, 0, boyLeft, 0, BOYS);
            System.arraycopy(other.loadPole, 0, loadPole, 0, LOADS);
            System.arraycopy(other.loadBoy, 0, loadBoy, 0, LOADS);
            System.arraycopy(other.ringMinute, 0, ringMinute, 0, RINGS);
            System.arraycopy(other.ringRope, 0, ringRope, 0, RINGS);
        }

        boolean isOnRope(int b) {
            return boyRope[b] != NONE;
        }

        int boyOn(int r, int boys) {
            for (int b = 0; b < boys; b++) {
                if (boyRope[b] == r) {
                    return b;
                }
            }
            return NONE;
        }

        int boysAt(int p, int boys) {
            int set = 0;
            for (int b = 0; b < boys; b++) {
                if (boyRope[b] == NONE && boyEnd[b] == p) {
                    set |= 1 << b;
                }
            }
            return set;
        }

        int loadsAt(int p, int loads) {
            int set = 0;
            for (int l = 0; l < loads; l++) {
                if (loadPole[l] == p) {
                    set |= 1 << l;
                }
            }
            return set;
        }

        int carriedBy(int b, int loads) {
            int set = 0;
            for (int l = 0; l < loads; l++) {
                if (loadBoy[l] == b) {
                    set |= 1 << l;
                }
            }
            return set;
        }

        void addRing(int r) {
            if (rings < RINGS) {
                ringMinute[rings] = minute;
                ringRope[rings] = r;
                rings++;
            }
        }

        void addWear(int r, int more) {
            wear[r] += more;
            if (wear[r] >= BREAKING_WEAR) {
                whole &= ~(1 << r);
            }
        }

        void setWet(int r, boolean is) {
            wet = is ? wet | 1 << r : wet & ~(1 << r);
        }

        int draw(int n) {
            seed = (int) (seed * 1103515245L + 12345L & 2147483647L);
            return n < 1 ? 0 : seed / 65536 % n;
        }
    }

    /** The text, and how it is read into a plan up to its first fault. */
    private static final class Reader {
        private static final int OUT_OF_PLACE = 1, OUT_OF_BOUNDS = 2, TOO_MANY = 3, AT_ODDS = 4;
        private static final int MOST_FIGURES = 3;

        final byte[] text = new byte[TEXT_BYTES];
        int length = 0;
        /** The number of the latest fault; faultAt is NONE where a text had none. */
        int fault = 0, faultAt = NONE;
        private int at = 0;
        /** The first byte of the latest word or number. */
        private int start = 0;
        private int number = 0;

        void append(byte next) {
            if (length < TEXT_BYTES) {
                text[length] = next;
                length++;
            }
        }

        boolean read(Plan plan) {
            plan.clear();
            at = 0;
            faultAt = NONE;
            boolean sound = true;
            for (int clause = 0; clause < TEXT_BYTES && sound && isMore(); clause++) {
                sound = readClause(plan);
            }
            return sound;
        }

        private boolean isMore() {
            skipBlanks();
            return at < length;
        }

        private boolean readClause(Plan plan) {
            readLetters();
            if (isWord("pole")) {
                return hasRoom(plan.poles, POLES) && readPole(plan) && readEnd();
            }
            if (isWord("rope")) {
                return hasRoom(plan.ropes, ROPES) && readRope(plan) && readEnd();
            }
            if (isWord("boy")) {
                return hasRoom(plan.boys, BOYS) && readBoy(plan) && readEnd();
            }
            if (isWord("load")) {
                return hasRoom(plan.loads, LOADS) && readLoad(plan) && readEnd();
            }
            return fail(OUT_OF_PLACE, start);
        }

        private boolean readPole(Plan plan) {
            int p = plan.poles;
            if (!readNumber(0, 99)) {
                return false;
            }
            plan.x[p] = number;
            if (!readNumber(0, 99)) {
                return false;
            }
            plan.y[p] = number;
            if (!readNumber(1, 5)) {
                return false;
            }
            plan.bears[p] = number;
            plan.poles++;
            return true;
        }

        private boolean readRope(Plan plan) {
            int r = plan.ropes;
            if (!readNumber(0, plan.poles - 1)) {
                return false;
            }
            plan.ropeFrom[r] = number;
            if (!readOtherPole(plan, plan.ropeFrom[r])) {
                return false;
            }
            plan.ropeTo[r] = number;
            if (!readNumber(1, LONGEST_ROPE)) {
                return false;
            }
            plan.feet[r] = number;
            if (!readNumber(1, 999)) {
                return false;
            }
            plan.carries[r] = number;
            plan.ropesAt[plan.ropeFrom[r]] |= 1 << r;
            plan.ropesAt[plan.ropeTo[r]] |= 1 << r;
            plan.ropes++;
            return true;
        }

        private boolean readBoy(Plan plan) {
            int b = plan.boys;
            if (!readNumber(0, plan.poles - 1)) {
                return false;
            }
            if (plan.boysTold(number) >= plan.bears[number]) {
                return fail(AT_ODDS, start);
            }
            plan.home[b] = number;
            if (!readNumber(1, 200)) {
                return false;
            }
            plan.boyPounds[b] = number;
            if (!readNumber(1, 50)) {
                return false;
            }
            plan.pace[b] = number;
            plan.boys++;
            return true;
        }

        private boolean readLoad(Plan plan) {
            int l = plan.loads;
            if (!readNumber(0, plan.poles - 1)) {
                return false;
            }
            plan.loadFrom[l] = number;
            if (!readOtherPole(plan, plan.loadFrom[l])) {
                return false;
            }
            plan.loadTo[l] = number;
            if (!readNumber(0, 200)) {
                return false;
            }
            plan.loadPounds[l] = number;
            if (!readNumber(0, 999)) {
                return false;
            }
            plan.worth[l] = number;
            if (!readKind()) {
                return false;
            }
            plan.kind[l] = number;
            plan.loads++;
            return true;
        }

        private boolean readOtherPole(Plan plan, int unlike) {
            if (!readNumber(0, plan.poles - 1)) {
                return false;
            }
            return number != unlike || fail(AT_ODDS, start);
        }

        private boolean readKind() {
            readLetters();
            number = kindOfWord();
            return number != NONE || fail(OUT_OF_PLACE, start);
        }

        private int kindOfWord() {
            if (isWord("plain")) {
                return PLAIN;
            }
            if (isWord("alive")) {
                return ALIVE;
            }
            if (isWord("level")) {
                return LEVEL;
            }
            return isWord("long") ? LONG : NONE;
        }

        private boolean readEnd() {
            skipBlanks();
            if (at >= length || text[at] != ';') {
                return fail(OUT_OF_PLACE, at);
            }
            at++;
            return true;
        }

        private boolean readNumber(int least, int most) {
            skipBlanks();
            start = at;
            number = 0;
            while (at < length && text[at] >= '0' && text[at] <= '9') {
                // Figures behind the third are not reckoned in: so the number never overflows.
                number = at - start < MOST_FIGURES ? number * 10 + text[at] - '0' : number;
                at++;
            }
            if (at == start) {
                return fail(OUT_OF_PLACE, start);
            }
            return at - start <= MOST_FIGURES && number >= least && number <= most || fail(OUT_OF_BOUNDS, start);
        }

        private void readLetters() {
            skipBlanks();
            start = at;
            while (at < length && text[at] >= 'a' && text[at] <= 'z') {
                at++;
            }
        }

        private boolean isWord(String word) {
            if (at - start != word.length()) {
                return false;
            }
            for (int k = 0; k < word.length(); k++) {
                if (text[start + k] != word.charAt(k)) {
                    return false;
                }
            }
            return true;
        }

        private void skipBlanks() {
            while (at < length && text[at] == ' ') {
                at++;
            }
        }

        private boolean hasRoom(int count, int most) {
            return count < most || fail(TOO_MANY, start);
        }

        private boolean fail(int which, int where) {
            fault = which;
            faultAt = where;
            return false;
        }
    }

    /** The least sums between all poles, by what each rope costs. */
    private static final class Ways {
        /** NONE: the rope is not gone. */
        final int[] cost = new int[ROPES];
        final int[] least = new int[POLES * POLES];
        private int poles = 0;

        void spread(Plan plan) {
            poles = plan.poles;
            Arrays.fill(least, FAR_OFF);
            for (int p = 0; p < poles; p++) {
                least[p * POLES + p] = 0;
            }
            for (int r = 0; r < plan.ropes; r++) {
                if (cost[r] != NONE) {
                    shorten(plan.ropeFrom[r], plan.ropeTo[r], cost[r]);
                    shorten(plan.ropeTo[r], plan.ropeFrom[r], cost[r]);
                }
            }
            for (int by = 0; by < poles; by++) {
                spreadBy(by);
            }
        }

        private void spreadBy(int by) {
            for (int p = 0; p < poles; p++) {
                int there = least[p * POLES + by];
                for (int q = 0; q < poles && there < FAR_OFF; q++) {
                    shorten(p, q, there + least[by * POLES + q]);
                }
            }
        }

        private void shorten(int p, int q, int sum) {
            if (sum < least[p * POLES + q]) {
                least[p * POLES + q] = sum;
            }
        }

        int between(int p, int q) {
            return least[p * POLES + q];
        }

        /** The sum over all pairs, were there a rope more. */
        int sumWith(int from, int to, int feet) {
            int sum = 0;
            for (int p = 0; p < poles; p++) {
                for (int q = p + 1; q < poles; q++) {
                    int there = between(p, from) + feet + between(to, q);
                    int back = between(p, to) + feet + between(from, q);
                    int best = Math.min(between(p, q), Math.min(there, back));
                    sum += best >= FAR_OFF ? NOT_JOINED : best;
                }
            }
            return sum;
        }
    }

    /** The fewest minutes that are left for one boy, by what still lies, what he carries and where he is. */
    private static final class Rounds {
        private static final int SETS = 1 << LOADS;

        final int[] from = new int[LOADS], to = new int[LOADS];
        private final int[] ways = new int[SETS * POLES * POLES];
        private final int[] rest = new int[SETS * SETS * POLES];

        static boolean canBeCarried(int carried, int live) {
            return (carried & ~live) == 0 && Integer.bitCount(carried) <= MOST_CARRIED;
        }

        void setWays(int carried, Ways known) {
            System.arraycopy(known.least, 0, ways, carried * POLES * POLES, POLES * POLES);
        }

        int rest(int lying, int carried, int p) {
            return rest[(lying * SETS + carried) * POLES + p];
        }

        /** What is taken up or delivered makes the sets lesser, so the lesser sets are known first. */
        void solve(int poles, int live) {
            for (int lying = 0; lying <= live; lying++) {
                if ((lying & ~live) != 0) {
                    continue;
                }
                for (int carried = 0; carried <= live; carried++) {
                    if ((carried & lying) != 0 || !canBeCarried(carried, live)) {
                        continue;
                    }
                    for (int p = 0; p < poles; p++) {
                        rest[(lying * SETS + carried) * POLES + p] = leastFrom(lying, carried, p);
                    }
                }
            }
        }

        private int leastFrom(int lying, int carried, int p) {
            if (lying == 0 && carried == 0) {
                return 0;
            }
            boolean hasHand = Integer.bitCount(carried) < MOST_CARRIED;
            int best = FAR_OFF;
            for (int l = 0; l < LOADS; l++) {
                int one = 1 << l;
                if (has(carried, l)) {
                    best = Math.min(best, way(carried, p, to[l]) + rest(lying, carried & ~one, to[l]));
                } else if (has(lying, l) && hasHand) {
                    best = Math.min(best, way(carried, p, from[l]) + rest(lying & ~one, carried | one, from[l]));
                }
            }
            return best;
        }

        private int way(int carried, int p, int q) {
            return ways[(carried * POLES + p) * POLES + q];
        }
    }

    /** Which boy has which load, so that the longest round is least. */
    private static final class Dealer {
        private static final int SETS = 1 << LOADS, HANDS = 1 << 2 * LOADS;

        private final int[] rounds = new int[BOYS * SETS];
        private int deal = NONE;
        int longest = FAR_OFF;

        void setRound(int b, int loads, int minutes) {
            rounds[b * SETS + loads] = minutes;
        }

        /** A deal is a number of two bits for each load, load 0 the highest: so they come in order. */
        void deal(int boys, int live) {
            deal = NONE;
            longest = FAR_OFF;
            for (int hand = 0; hand < HANDS; hand++) {
                int minutes = isDeal(hand, boys, live) ? longestOf(hand, boys, live) : FAR_OFF;
                if (minutes < longest) {
                    longest = minutes;
                    deal = hand;
                }
            }
        }

        int boyOf(int l, int live) {
            return deal == NONE || !has(live, l) ? NONE : boyIn(deal, l);
        }

        private static int boyIn(int hand, int l) {
            return hand >> 2 * (LOADS - 1 - l) & BOYS - 1;
        }

        private static boolean isDeal(int hand, int boys, int live) {
            for (int l = 0; l < LOADS; l++) {
                if (boyIn(hand, l) >= (has(live, l) ? boys : 1)) {
                    return false;
                }
            }
            return true;
        }

        private int longestOf(int hand, int boys, int live) {
            int most = 0;
            for (int b = 0; b < boys; b++) {
                int loads = 0;
                for (int l = 0; l < LOADS; l++) {
                    loads |= has(live, l) && boyIn(hand, l) == b ? 1 << l : 0;
                }
                most = Math.max(most, rounds[b * SETS + loads]);
            }
            return most;
        }
    }

    /** The sightings, as they were told. */
    private static final class Book {
        int count = 0;
        final int[] boy = new int[SIGHTINGS], pole = new int[SIGHTINGS], minute = new int[SIGHTINGS];

        void add(int b, int p, int when) {
            if (count < SIGHTINGS) {
                boy[count] = b;
                pole[count] = p;
                minute[count] = when;
                count++;
            }
        }

        /** Of those of one minute the one told last. */
        int lastUntil(int b, int when) {
            int last = NONE;
            for (int i = 0; i < count; i++) {
                if (boy[i] == b && minute[i] <= when && (last == NONE || minute[i] >= minute[last])) {
                    last = i;
                }
            }
            return last;
        }

        /** Of those of one minute the one told first. */
        int firstAfter(int b, int when) {
            int first = NONE;
            for (int i = 0; i < count; i++) {
                if (boy[i] == b && minute[i] > when && (first == NONE || minute[i] < minute[first])) {
                    first = i;
                }
            }
            return first;
        }

        int toldAhead(int i) {
            for (int k = i - 1; k >= 0; k--) {
                if (boy[k] == boy[i]) {
                    return k;
                }
            }
            return NONE;
        }
    }
}
