/** The edges of promises 22 and 23: kept, newRope. Each method holds the words that it begins with. */
public final class EdgeRopesTest {
    private static final int U = RopePost.UNKNOWN, O = RopePost.OUTSIDE, NONE = RopePost.NONE;
    private static final int LEAST = Integer.MIN_VALUE, MOST = Integer.MAX_VALUE;
    private static final String FOUR = "pole 0 0 5;pole 0 0 5;pole 0 0 5;pole 0 0 5;";

    public static void main(String[] args) {
        keptUnknown();
        keptOfFewPoles();
        keptOfTwoPoles();
        keptFewest();
        keptLeastSet();
        keptByOtherPoles();
        keptByWholeOnes();
        keptCannotBe();
        keptByEachRope();
        keptByWayOfEachPole();
        keptAtItsMost();
        newRopeBounds();
        newRopeNoPair();
        newRopeLength();
        newRopeWithoutAWholeOne();
        newRopeLeastSum();
        newRopeNotJoined();
        newRopeFirstOfLike();
        newRopeByFeetAlone();
        newRopeAtItsMost();
        Check.end("EdgeRopesTest");
    }

    // ---- kept

    private static void keptUnknown() {
        Check.sentence("kept: UNKNOWN (bits of such)");
        for (int set : new int[] {LEAST, LEAST + 1, -16, -1, 16, 17, 31, 256, 1 << 30, MOST}) {
            Twins.refusedToday("kept(" + set + ")", x -> x.kept(set), U);
        }
        RopePost x = Check.town(FOUR + FOUR);
        Check.due("all of eight", x.kept(255), NONE);
        Check.due("the last of eight", x.kept(128), 0);
        Check.due("a ninth", x.kept(256), U);
        Check.due("all and a ninth", x.kept(511), U);
        Check.due("of no poles, one", new RopePost().kept(1), U);
        Check.due("of no poles, none", new RopePost().kept(0), 0);
    }

    private static void keptOfFewPoles() {
        Check.sentence("the fewest ROPES by which told POLES are joined: none and one");
        RopePost x = Check.town(FOUR + "rope 0 1 1 1;rope 0 1 1 1;");
        Check.due("none", x.kept(0), 0);
        for (int p = 0; p < 4; p++) {
            Check.due("one", x.kept(1 << p), 0);
        }
        Check.due("none in a town without ropes", Check.town(FOUR).kept(0), 0);
        Check.due("one in a town without ropes", Check.town(FOUR).kept(8), 0);
    }

    private static void keptOfTwoPoles() {
        Check.sentence("joined, whichever one of these ROPES is cut");
        for (int ropes = 0; ropes <= 12; ropes++) {
            RopePost x = Check.town(FOUR + "rope 2 3 1 1;".repeat(ropes));
            Check.due("two poles by " + ropes, x.kept(12), ropes < 2 ? NONE : 3);
            Check.due("two others by " + ropes, x.kept(3), NONE);
        }
    }

    private static void keptFewest() {
        Check.sentence("the fewest ROPES");
        // Ropes 0 to 3 are a ring of all four, 4 and 5 join poles 0 and 2 at once.
        RopePost x = Check.town(FOUR + "rope 0 1 1 1;rope 1 2 1 1;rope 2 3 1 1;rope 3 0 1 1;rope 0 2 1 1;rope 0 2 1 1;");
        Check.due("two ropes, though four of the ring are a lesser set", x.kept(5), 48);
        Check.due("three ropes, by the first of the two", x.kept(7), 19);
        Check.due("the ring", x.kept(15), 15);
        x.cut(5);
        Check.due("a ring of three", x.kept(5), 19);
        x.cut(4);
        Check.due("the ring of four", x.kept(5), 15);
    }

    private static void keptLeastSet() {
        Check.sentence("of like ones the least SET");
        RopePost x = Check.town(FOUR + "rope 0 1 1 1;rope 0 2 1 1;rope 0 1 1 1;rope 0 2 1 1;rope 0 1 1 1;rope 0 2 1 1;");
        Check.due("the first two of three", x.kept(3), 5);
        Check.due("the first two of the others", x.kept(5), 10);
        Check.due("both pairs", x.kept(7), 15);
        x.cut(0);
        Check.due("the next two", x.kept(3), 20);
        Check.due("the next pairs", x.kept(7), 30);
    }

    private static void keptByOtherPoles() {
        Check.sentence("by which told POLES are joined");
        RopePost x = Check.town(FOUR + "rope 0 1 1 1;rope 0 1 1 1;rope 1 2 1 1;rope 1 2 1 1;");
        Check.due("by way of one that is not told", x.kept(5), 15);
        Check.due("neighbours", x.kept(6), 12);
        x = Check.town(FOUR + "rope 0 1 1 1;rope 1 3 1 1;rope 0 2 1 1;rope 2 3 1 1;");
        Check.due("by way of two", x.kept(9), 15);
    }

    private static void keptByWholeOnes() {
        Check.sentence("the fewest ROPES (whole ones; a SET)");
        RopePost x = Check.town(FOUR + "rope 0 1 10 90;rope 0 1 1 1;rope 0 1 1 1;boy 0 90 10;");
        for (int k = 0; k < 9; k++) {
            x.go(0, 0);
            x.pass(1);
        }
        Check.due("worn to 90", x.kept(3), 3);
        x.go(0, 0);
        Check.due("one is on it", x.kept(3), 3);
        x.pass(1);
        Check.due("broken", x.kept(3), 6);
        x.wet(1, true);
        Check.due("wet ones as well", x.kept(3), 6);
        x.cut(2);
        Check.due("one is left", x.kept(3), NONE);
        x.splice(0);
        Check.due("spliced", x.kept(3), 3);
    }

    private static void keptCannotBe() {
        Check.sentence("KEPT; NONE");
        RopePost x = Check.town(FOUR + "rope 0 1 1 1;rope 0 1 1 1;rope 2 3 1 1;rope 2 3 1 1;rope 1 2 1 1;");
        Check.due("by one rope between the halves", x.kept(6), NONE);
        Check.due("all", x.kept(15), NONE);
        Check.due("one half", x.kept(3), 3);
        Check.due("the other half", x.kept(12), 12);
        x = Check.town(FOUR + "rope 0 1 1 1;rope 1 2 1 1;rope 2 0 1 1;rope 0 3 1 1;");
        Check.due("the ring", x.kept(7), 7);
        Check.due("one that hangs by one rope", x.kept(9), NONE);
        Check.due("the ring with it", x.kept(15), NONE);
    }

    private static void keptByEachRope() {
        Check.sentence("joined, whichever one of these ROPES is cut");
        // Two rings of two, and one rope between them: whatever its number, it may not be cut.
        for (int bridge = 0; bridge < 5; bridge++) {
            StringBuilder town = new StringBuilder(FOUR);
            int pairs = 0;
            for (int r = 0; r < 5; r++) {
                town.append(r == bridge ? "rope 1 2 1 1;" : pairs++ < 2 ? "rope 0 1 1 1;" : "rope 2 3 1 1;");
            }
            RopePost x = Check.town(town.toString());
            Check.due("all, by rope " + bridge, x.kept(15), NONE);
            Check.due("its ends, by rope " + bridge, x.kept(6), NONE);
            Check.due("the far ends, by rope " + bridge, x.kept(9), NONE);
            Check.due("one side, by rope " + bridge, x.kept(3) > 0 ? 1 : 0, 1);
        }
    }

    private static void keptByWayOfEachPole() {
        Check.sentence("by which told POLES are joined");
        for (int by = 0; by < 8; by++) {
            int p = by == 0 ? 1 : 0, q = by == 7 ? 6 : 7;
            RopePost x = Check.town(FOUR + FOUR + ("rope " + p + " " + by + " 1 1;rope " + by + " " + q + " 1 1;").repeat(2));
            Check.due("by way of " + by, x.kept(1 << p | 1 << q), 15);
            x = Check.town(FOUR + FOUR + "rope " + p + " " + by + " 1 1;rope " + q + " " + by + " 1 1;rope " + q + " " + p + " 1 1;");
            Check.due("one way of two by way of " + by, x.kept(1 << p | 1 << q), 7);
        }
    }

    private static void keptAtItsMost() {
        Check.sentence("8 POLES, 12 ROPES: the fewest ROPES by which told POLES are joined");
        StringBuilder ring = new StringBuilder(FOUR + FOUR);
        ring.append("rope 0 4 1 1;rope 1 5 1 1;rope 2 6 1 1;rope 3 7 1 1;");
        for (int p = 0; p < 8; p++) {
            ring.append("rope ").append(p).append(' ').append((p + 1) % 8).append(" 1 1;");
        }
        RopePost x = Check.town(ring.toString());
        // Eight poles need eight ropes at least; of the rings of eight the least set takes the ropes across.
        int due = ringOfEight();
        Check.due("all eight", x.kept(255), due);
        for (int r = 0; r < 4; r++) {
            x.cut(r);
        }
        Check.due("the ring alone", x.kept(255), 4080);
        Check.due("any two of the ring", x.kept(1 | 16), 4080);
        x.cut(11);
        Check.due("the ring is open", x.kept(3), NONE);
        x = Check.town("pole 0 0 5;".repeat(7) + "rope 0 1 1 1;rope 0 1 1 1;rope 1 2 1 1;rope 1 2 1 1;rope 2 3 1 1;rope 2 3 1 1;rope 3 4 1 1;"
            + "rope 3 4 1 1;rope 4 5 1 1;rope 4 5 1 1;rope 5 6 1 1;rope 5 6 1 1;");
        Check.due("all twelve ropes", x.kept(127), 4095);
        Check.due("all twelve for the ends", x.kept(65), 4095);
    }

    /** The least set of eight ropes that is one ring of all eight poles. */
    private static int ringOfEight() {
        for (int set = 0; set < 4096; set++) {
            if (Integer.bitCount(set) == 8 && isRing(set)) {
                return set;
            }
        }
        return NONE;
    }

    private static boolean isRing(int set) {
        int at = 0, left = set, seen = 0;
        for (int step = 0; step < 8; step++) {
            seen |= 1 << at;
            int next = NONE;
            for (int r = 0; r < 12 && next == NONE; r++) {
                boolean ends = RING_FROM[r] == at || RING_TO[r] == at;
                next = (left >> r & 1) == 1 && ends ? r : NONE;
            }
            if (next == NONE) {
                return false;
            }
            left &= ~(1 << next);
            at = RING_FROM[next] == at ? RING_TO[next] : RING_FROM[next];
        }
        return at == 0 && seen == 255;
    }

    private static final int[] RING_FROM = {0, 1, 2, 3, 0, 1, 2, 3, 4, 5, 6, 7}, RING_TO = {4, 5, 6, 7, 1, 2, 3, 4, 5, 6, 7, 0};

    // ---- newRope

    private static void due(String name, RopePost x, int p, int q, int sum) {
        Check.due(name + ": its lesser pole", x.newRope(0), p);
        Check.due(name + ": its other pole", x.newRope(1), q);
        Check.due(name + ": the sum by it", x.newRope(2), sum);
    }

    private static void newRopeBounds() {
        Check.sentence("newRope: what = 0, 1 its POLES, 2 the sum by it; NONE. OUTSIDE");
        for (int what : new int[] {LEAST, -2, -1, 3, 4, MOST}) {
            Twins.refusedToday("newRope(" + what + ")", x -> x.newRope(what), O);
            Check.due("newRope(" + what + ") where there is no pair", new RopePost().newRope(what), O);
        }
    }

    private static void newRopeNoPair() {
        Check.sentence("NONE: there is no such pair");
        due("no poles", new RopePost(), NONE, NONE, NONE);
        due("one pole", Check.town("pole 5 5 1;"), NONE, NONE, NONE);
        due("two at one place", Check.town("pole 5 5 1;pole 5 5 1;"), NONE, NONE, NONE);
        due("a whole one", Check.town("pole 0 0 1;pole 5 5 1;rope 1 0 9 9;"), NONE, NONE, NONE);
        due("two poles", Check.town("pole 0 0 1;pole 5 5 1;"), 0, 1, 10);
    }

    private static void newRopeLength() {
        Check.sentence("its length |X| and |Y| apart together, 1 to 99");
        int[][] rows = {{0, 0, 0, 0, NONE}, {0, 0, 1, 0, 1}, {0, 0, 0, 1, 1}, {1, 0, 0, 0, 1}, {0, 1, 0, 0, 1}, {0, 0, 99, 0, 99}, {0, 0, 0, 99, 99},
            {99, 0, 0, 0, 99}, {0, 0, 50, 49, 99}, {50, 0, 0, 49, 99}, {0, 49, 50, 0, 99}, {0, 0, 50, 50, NONE}, {0, 0, 99, 1, NONE},
            {0, 1, 99, 0, NONE}, {99, 99, 0, 0, NONE}, {0, 99, 99, 0, NONE}};
        for (int[] row : rows) {
            RopePost x = Check.town("pole " + row[0] + " " + row[1] + " 1;pole " + row[2] + " " + row[3] + " 1;");
            String name = row[0] + ", " + row[1] + " to " + row[2] + ", " + row[3];
            due(name, x, row[4] == NONE ? NONE : 0, row[4] == NONE ? NONE : 1, row[4]);
        }
    }

    private static void newRopeWithoutAWholeOne() {
        Check.sentence("between two POLES without a whole one");
        RopePost x = Check.town("pole 0 0 1;pole 5 0 1;rope 0 1 90 9;rope 1 0 80 9;");
        due("two whole ones", x, NONE, NONE, NONE);
        x.cut(0);
        due("one whole one", x, NONE, NONE, NONE);
        x.cut(1);
        due("none whole", x, 0, 1, 5);
        x.splice(0);
        due("spliced", x, NONE, NONE, NONE);
    }

    private static void newRopeLeastSum() {
        Check.sentence("that by which the sum of FAR by feet of all pairs is least (pairs either way round are one)");
        RopePost x = Check.town("pole 0 0 1;pole 20 0 1;pole 30 0 1;rope 0 1 90 9;rope 1 2 90 9;");
        // 0-2 by 30: 01 90, 02 30, 12 90.
        due("the only pair", x, 0, 2, 210);
        x = Check.town("pole 0 0 1;pole 20 0 1;pole 30 0 1;pole 30 1 1;rope 0 1 90 9;rope 1 2 90 9;rope 2 3 9 9;");
        // 0-2 by 30: 01 90, 02 30, 03 39, 12 90, 13 99, 23 9 = 357; 0-3 by 31: 01 90, 02 40, 03 31, 12 90, 13 99, 23 9 = 359;
        // 1-3 by 11: 01 90, 02 110, 03 101, 12 20, 13 11, 23 9 = 341.
        due("of three pairs the last", x, 1, 3, 341);
    }

    private static void newRopeNotJoined() {
        Check.sentence("a pair that is not joined counts 999");
        RopePost x = Check.town("pole 0 0 1;pole 1 0 1;pole 0 90 1;pole 9 90 1;");
        due("one pair joined, five not", x, 0, 1, 1 + 5 * 999);
        x = Check.town("pole 0 0 1;pole 1 0 1;pole 0 90 1;rope 0 1 1 1;");
        // By 90 feet all are joined: 1, 90, 91.
        due("it joins them", x, 0, 2, 182);
        x.cut(0);
        due("cut", x, 0, 1, 1 + 2 * 999);
    }

    private static void newRopeFirstOfLike() {
        Check.sentence("of like ones the first (lesser POLE, then the other)");
        RopePost x = Check.town("pole 0 0 1;pole 0 9 1;pole 9 9 1;pole 9 0 1;");
        due("four like ones", x, 0, 1, 9 + 5 * 999);
        x = Check.town("pole 0 0 1;pole 9 9 1;pole 0 9 1;pole 9 0 1;");
        due("the lesser pole, then the other", x, 0, 2, 9 + 5 * 999);
        x = Check.town("pole 0 0 1;pole 50 50 1;pole 60 50 1;pole 50 60 1;pole 20 0 1;");
        due("the lesser pole, though not 0", x, 1, 2, 10 + 9 * 999);
        x = Check.town("pole 0 0 1;pole 9 0 1;pole 18 0 1;rope 0 1 9 9;rope 1 2 9 9;");
        due("one that helps nothing", x, 0, 2, 36);
    }

    private static void newRopeByFeetAlone() {
        Check.sentence("FAR by feet (L alone, whole ROPES), CARRYING all");
        RopePost x = Check.town("pole 0 0 1;pole 20 0 1;pole 30 0 1;rope 0 1 90 1;rope 1 2 90 1;boy 0 200 1;boy 1 1 50;");
        due("whatever they carry", x, 0, 2, 210);
        x.wet(0, true);
        x.wet(1, true);
        due("however wet they are", x, 0, 2, 210);
        x.go(1, 1);
        due("whoever is on them", x, 0, 2, 210);
        x.cut(0);
        // 0-1 by 20: 01 20, 02 110, 12 90 = 220; 0-2 by 30: 01 120, 02 30, 12 90 = 240.
        due("the whole ones", x, 0, 1, 220);
    }

    private static void newRopeAtItsMost() {
        Check.sentence("the sum of FAR by feet of all pairs, at its most");
        due("27 of 28 not joined", Check.town("pole 0 0 1;".repeat(7) + "pole 99 0 1;"), 0, 7, 99 + 27 * 999);
        StringBuilder all = new StringBuilder();
        for (int p = 0; p < 8; p++) {
            all.append("pole ").append(14 * p).append(" 0 1;");
        }
        for (int p = 0; p < 7; p++) {
            all.append("rope ").append(p).append(' ').append(p + 1).append(" 14 9;");
        }
        Check.due("by the last of twelve", Check.town("pole 0 0 1;pole 0 9 1;pole 0 10 1;" + "rope 0 1 99 9;".repeat(11) + "rope 1 2 5 9;").newRope(2),
            10 + 15 + 5);
        // Steps of 14 feet: 84 among eight in a line. No rope helps, so it is the first pair that has none.
        due("a line of eight", Check.town(all.toString()), 0, 2, 84 * 14);
    }
}
