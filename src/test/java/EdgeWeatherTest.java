/** The edges of promises 14 to 18, and of wear: ropes that wear, are cut, spliced and wet, storms, rings. */
public final class EdgeWeatherTest {
    private static final int U = RopePost.UNKNOWN, O = RopePost.OUTSIDE, NOT = RopePost.NOT, NONE = RopePost.NONE;
    private static final int LEAST = Integer.MIN_VALUE, MOST = Integer.MAX_VALUE;
    private static final String TWO = "pole 0 0 5;pole 0 0 5;";

    public static void main(String[] args) {
        wearByPounds();
        wearWhenLeft();
        breaksAtHundred();
        breaksAsSoonAsLeft();
        breaksBehindADelivery();
        cutUnknown();
        cutNot();
        cutIsCut();
        spliceUnknown();
        spliceNot();
        spliceIsWhole();
        wetUnknown();
        wetTells();
        stormBounds();
        drawsWrapAround();
        stormBelow();
        stormOfNothing();
        stormOfAll();
        stormBreaksAtHundred();
        stormPassesOver();
        stormWets();
        stormTellsTheBroken();
        ringBounds();
        ringOfRefused();
        ringsFull();
        Check.end("EdgeWeatherTest");
    }

    // ---- wear

    private static void wearByPounds() {
        Check.sentence("A ROPE that is left wears by pounds on it / 10 and 1");
        int[][] rows = {{1, 0, 0, 1}, {9, 0, 0, 1}, {10, 0, 0, 2}, {11, 0, 0, 2}, {19, 0, 0, 2}, {20, 0, 0, 3}, {99, 0, 0, 10}, {100, 0, 0, 11},
            {200, 0, 0, 21}, {4, 3, 2, 1}, {4, 3, 3, 2}, {200, 200, 200, 61}, {5, 5, 0, 2}, {5, 0, 4, 1}};
        for (int[] row : rows) {
            RopePost x = Check.town(TWO + "rope 0 1 20 999;boy 0 " + row[0] + " 50;load 0 1 " + row[1] + " 0 plain;load 0 1 " + row[2] + " 0 long;"
                + "load 0 1 200 0 plain;");
            x.take(0, 0);
            x.take(0, 1);
            x.go(0, 0);
            x.pass(1);
            Check.due("wear by " + row[0] + ", " + row[1] + ", " + row[2], x.rope(0, 4), row[3]);
            Check.due("delivered by it", x.told(7), 3);
        }
    }

    private static void wearWhenLeft() {
        Check.sentence("A ROPE that is left wears");
        RopePost x = Check.town(TWO + "rope 0 1 20 999;rope 0 1 20 999;boy 0 30 10;");
        x.go(0, 1);
        Check.due("not when he goes on it", x.rope(1, 4), 0);
        x.pass(1);
        Check.due("not while he is on it", x.rope(1, 4), 0);
        x.pass(1);
        Check.due("when he has left it", x.rope(1, 4), 4);
        x.pass(9);
        Check.due("once", x.rope(1, 4), 4);
        Check.due("no other", x.rope(0, 4), 0);
        x.go(0, 1);
        x.pass(2);
        Check.due("each time", x.rope(1, 4), 8);
    }

    private static RopePost crossed(int pounds, int times) {
        RopePost x = Check.town(TWO + "rope 0 1 10 999;rope 0 1 10 999;boy 0 " + pounds + " 50;boy 0 1 50;");
        for (int k = 0; k < times; k++) {
            x.go(0, 0);
            x.pass(1);
        }
        return x;
    }

    private static void breaksAtHundred() {
        Check.sentence("with WEAR of 100 or more it breaks");
        RopePost x = crossed(100, 9);
        Check.due("99", x.rope(0, 4), 99);
        Check.due("99 is whole", x.rope(0, 6), 1);
        Check.due("of the whole ones", x.told(10), 3);
        Check.due("it may be gone", x.go(0, 0), 1);
        x.pass(1);
        Check.due("110", x.rope(0, 4), 110);
        Check.due("110 is broken", x.rope(0, 6), 0);
        x = crossed(90, 10);
        Check.due("100", x.rope(0, 4), 100);
        Check.due("100 is broken", x.rope(0, 6), 0);
        Check.due("not of the whole ones", x.told(10), 2);
        Check.due("it may not be gone", x.go(0, 0), NOT);
        x = crossed(1, 99);
        Check.due("99 by ones", x.rope(0, 6), 1);
        x = crossed(1, 100);
        Check.due("100 by ones", x.rope(0, 6), 0);
    }

    private static void breaksAsSoonAsLeft() {
        Check.sentence("it breaks (as soon as it is left)");
        RopePost x = Check.town("pole 0 0 5;pole 0 0 1;rope 0 1 10 999;boy 0 200 50;boy 0 1 50;");
        for (int k = 0; k < 4; k++) {
            x.go(0, 0);
            x.pass(1);
        }
        x.go(1, 0);
        x.pass(1);
        Check.due("85", x.rope(0, 4), 85);
        // Boy 1 holds the pole: he who waits is still on the rope.
        x.go(0, 0);
        x.pass(50);
        Check.due("he waits: it does not break", x.rope(0, 6), 1);
        Check.due("85 still", x.rope(0, 4), 85);
        x = crossed(200, 4);
        x.go(0, 0);
        Check.due("whole while he is on it", x.rope(0, 6), 1);
        x.pass(1);
        Check.due("he has come", x.boy(0, 0), 1);
        Check.due("broken with that", x.rope(0, 6), 0);
        Check.due("no more of the whole ones", x.told(10), 2);
    }

    private static void breaksBehindADelivery() {
        Check.sentence("DELIVERED at once; A ROPE that is left wears");
        RopePost x = Check.town(TWO + "rope 0 1 20 999;boy 0 200 50;load 0 1 200 7 plain;load 0 1 200 9 long;");
        for (int k = 0; k < 2; k++) {
            x.go(0, 0);
            x.pass(1);
        }
        x.take(0, 0);
        x.take(0, 1);
        x.go(0, 0);
        Check.due("delivered by a rope that breaks", x.pass(1), 3);
        Check.due("had", x.told(6), 16);
        Check.due("21, 21 and 61", x.rope(0, 4), 103);
        Check.due("broken", x.rope(0, 6), 0);
    }

    // ---- cut, splice, wet

    private static void cutUnknown() {
        Check.sentence("cut: UNKNOWN");
        for (int none : new int[] {LEAST, -1, 5, 12, 31, 32, MOST}) {
            Twins.refusedToday("cut(" + none + ")", x -> x.cut(none), U);
        }
    }

    private static void cutNot() {
        Check.sentence("cut: NOT: somebody is on it; it is not whole");
        Twins.refusedToday("somebody waits on it", x -> x.cut(0), NOT);
        Twins.refusedToday("somebody is on it", x -> x.cut(4), NOT);
        Twins.refusedToday("it is cut", x -> x.cut(2), NOT);
        RopePost x = crossed(90, 10);
        Check.due("it is broken by wear", x.cut(0), NOT);
        Check.due("its wear stays", x.rope(0, 4), 100);
    }

    private static void cutIsCut() {
        Check.sentence("A ROPE is cut: 1");
        RopePost x = crossed(90, 3);
        Check.due("cut(0)", x.cut(0), 1);
        Check.due("not whole", x.rope(0, 6), 0);
        Check.due("its wear stays", x.rope(0, 4), 30);
        Check.due("the other is whole", x.told(10), 2);
        Check.due("cut(1)", x.cut(1), 1);
        Check.due("none is whole", x.told(10), 0);
        x = Check.town(TWO + "rope 0 1 10 99;boy 0 1 10;");
        x.go(0, 0);
        x.pass(1);
        Check.due("as soon as he has left it", x.cut(0), 1);
    }

    private static void spliceUnknown() {
        Check.sentence("splice: UNKNOWN");
        for (int none : new int[] {LEAST, -1, 5, 12, 31, 32, MOST}) {
            Twins.refusedToday("splice(" + none + ")", x -> x.splice(none), U);
        }
    }

    private static void spliceNot() {
        Check.sentence("splice: NOT: it is whole");
        Twins.refusedToday("whole, somebody on it, worn", x -> x.splice(0), NOT);
        Twins.refusedToday("whole, worn", x -> x.splice(1), NOT);
        Twins.refusedToday("whole, wet", x -> x.splice(3), NOT);
        RopePost x = crossed(100, 9);
        Check.due("worn to 99", x.splice(0), NOT);
        Check.due("its wear stays", x.rope(0, 4), 99);
    }

    private static void spliceIsWhole() {
        Check.sentence("A ROPE is whole again, without WEAR: 1");
        RopePost x = crossed(90, 10);
        x.wet(0, true);
        Check.due("broken by wear", x.splice(0), 1);
        Check.due("whole", x.rope(0, 6), 1);
        Check.due("of the whole ones", x.told(10), 3);
        Check.due("without wear", x.rope(0, 4), 0);
        Check.due("as wet as it was", x.rope(0, 5), 1);
        Check.due("a second time", x.splice(0), NOT);
        x.go(0, 0);
        x.pass(2);
        Check.due("it wears anew", x.rope(0, 4), 10);
        x.cut(0);
        Check.due("cut", x.splice(0), 1);
        Check.due("without wear again", x.rope(0, 4), 0);
    }

    private static void wetUnknown() {
        Check.sentence("wet: UNKNOWN");
        for (int none : new int[] {LEAST, -1, 5, 12, 31, 32, MOST}) {
            Twins.refusedToday("wet(" + none + ", true)", x -> x.wet(none, true), U);
            Twins.refusedToday("wet(" + none + ", false)", x -> x.wet(none, false), U);
        }
    }

    private static void wetTells() {
        Check.sentence("A ROPE is WET, or dry: what it was (1, 0)");
        RopePost x = new RopePost();
        Twins.day(x);
        int[] was = {0, 0, 1, 1, 0};
        for (int r = 0; r < 5; r++) {
            Check.due("what it was, wet now", x.wet(r, true), was[r]);
            Check.due("wet", x.rope(r, 5), 1);
            Check.due("it was wet, wet again", x.wet(r, true), 1);
            Check.due("it was wet, dry now", x.wet(r, false), 1);
            Check.due("dry", x.rope(r, 5), 0);
            Check.due("it was dry, dry again", x.wet(r, false), 0);
        }
        Check.due("his minutes stay", x.boy(3, 2), 18);
        Check.due("what is cut stays cut", x.rope(2, 6), 0);
    }

    // ---- storms

    /** The draws told anew, in longs. */
    private static long seed;

    private static int draw(int n) {
        seed = (seed * 1103515245L + 12345L) % 2147483648L;
        return (int) (seed / 65536 % n);
    }

    private static void stormBounds() {
        Check.sentence("STORM (q 0 .. 100). OUTSIDE");
        for (int q : new int[] {LEAST, -1, 101, 102, MOST}) {
            Twins.refusedToday("storm(" + q + ")", x -> x.storm(q), O);
            Check.due("storm(" + q + ") without ropes", new RopePost().storm(q), O);
        }
        Check.due("storm(0)", Check.town(TWO).storm(0), 0);
        Check.due("storm(100)", Check.town(TWO).storm(100), 0);
    }

    private static void drawsWrapAround() {
        Check.sentence("THE SEED becomes it times 1103515245 and 12345, left over by 2 to the 31");
        // Reckoned by hand: two draws each, one for the wear that is not below 0, one for the wetness.
        long[] first = {0, 1, 2147483647L, 1073741824L, 65536};
        for (long one : first) {
            RopePost x = Check.town(TWO + "rope 0 1 1 1;");
            x.seed((int) one);
            x.storm(0);
            seed = one;
            draw(100);
            Check.due("wet", x.rope(0, 5), draw(2));
            Check.due("seed behind " + one, x.seed(0), seed);
        }
        RopePost x = Check.town(TWO + "rope 0 1 1 1;");
        x.storm(0);
        // 0 becomes 12345, and that becomes 12345 * 1103515245 + 12345 less 6343 times 2 to the 31.
        Check.due("two draws from 0", x.seed(0), 12345L * 1103515245L + 12345L - 6343L * 2147483648L);
    }

    private static void stormBelow() {
        Check.sentence("a DRAW of 100 below q: WEAR a DRAW of 40 more");
        for (int first = 0; first < 60; first++) {
            seed = first;
            int drawn = draw(100);
            int wear = draw(40);
            Check.due("a draw of " + drawn + " is not below itself", wearOfStorm(first, drawn), 0);
            Check.due("a draw of " + drawn + " is below the next", wearOfStorm(first, drawn + 1), wear);
        }
    }

    private static int wearOfStorm(int first, int q) {
        RopePost x = Check.town(TWO + "rope 0 1 1 1;");
        x.seed(first);
        x.storm(q);
        return x.rope(0, 4);
    }

    /** The first seed whose two draws are so. */
    private static int seedFor(int ofHundred, int ofForty) {
        for (int first = 0; first < 100000000; first++) {
            seed = first;
            if (draw(100) == ofHundred && draw(40) == ofForty) {
                return first;
            }
        }
        return NONE;
    }

    private static void stormOfNothing() {
        Check.sentence("a DRAW of 100 below q: q 0");
        for (int forty = 1; forty < 40; forty += 19) {
            Check.due("a draw of 0 is not below 0", wearOfStorm(seedFor(0, forty), 0), 0);
            Check.due("a draw of 0 is below 1", wearOfStorm(seedFor(0, forty), 1), forty);
        }
        RopePost x = Check.town(TWO + "rope 0 1 1 1;rope 0 1 1 1;");
        x.storm(0);
        seed = 0;
        for (int k = 0; k < 4; k++) {
            draw(1);
        }
        Check.due("it draws all the same", x.seed(0), seed);
    }

    private static void stormOfAll() {
        Check.sentence("a DRAW of 100 below q: q 100");
        for (int forty = 1; forty < 40; forty += 19) {
            Check.due("a draw of 99 is below 100", wearOfStorm(seedFor(99, forty), 100), forty);
            Check.due("a draw of 99 is not below 99", wearOfStorm(seedFor(99, forty), 99), 0);
        }
        Check.due("the least wear", wearOfStorm(seedFor(50, 0), 100), 0);
        Check.due("the most wear", wearOfStorm(seedFor(50, 39), 100), 39);
    }

    private static void stormBreaksAtHundred() {
        Check.sentence("WEAR a DRAW of 40 more (broken at 100 or more)");
        for (int sum = 98; sum <= 102; sum++) {
            RopePost x = crossed(90, 7);
            x.cut(1);
            x.seed(seedFor(5, sum - 70));
            Check.due("storm to " + sum, x.storm(6), sum >= 100 ? 1 : 0);
            Check.due("wear " + sum, x.rope(0, 4), sum);
            Check.due("whole at " + sum, x.rope(0, 6), sum >= 100 ? 0 : 1);
            Check.due("whole ones at " + sum, x.told(10), sum >= 100 ? 0 : 1);
        }
    }

    private static void stormPassesOver() {
        Check.sentence("each ROPE, in order, that is whole and has nobody on it");
        RopePost x = Check.town("pole 0 0 5;pole 0 0 1;" + "rope 0 1 10 99;".repeat(6) + "boy 0 1 1;boy 1 1 10;boy 0 1 10;");
        x.go(0, 1);
        x.go(2, 4);
        x.pass(3);
        x.cut(2);
        Check.due("one waits", x.boy(2, 2), 1);
        x.seed(99);
        seed = 99;
        x.storm(70);
        for (int r = 0; r < 6; r++) {
            boolean drawn = r != 1 && r != 2 && r != 4;
            Check.due("wear of " + r, x.rope(r, 4), drawn && draw(100) < 70 ? draw(40) : 0);
        }
        for (int r = 0; r < 6; r++) {
            Check.due("wet " + r, x.rope(r, 5), draw(2));
        }
        Check.due("no draw for the others", x.seed(0), seed);
    }

    private static void stormWets() {
        Check.sentence("behind all that each ROPE, in order, is WET by a DRAW of 2 (1: WET)");
        for (int first = 0; first < 40; first++) {
            RopePost x = Check.town(TWO + "rope 0 1 10 99;rope 0 1 10 99;rope 0 1 10 99;boy 0 1 1;");
            x.go(0, 0);
            x.cut(1);
            x.wet(0, true);
            x.wet(1, true);
            x.wet(2, true);
            x.seed(first);
            x.storm(0);
            seed = first;
            draw(100);
            for (int r = 0; r < 3; r++) {
                Check.due("wet or dry, " + r + " by " + first, x.rope(r, 5), draw(2));
            }
            Check.due("his minutes stay", x.boy(0, 2), 10);
        }
    }

    private static void stormTellsTheBroken() {
        Check.sentence("STORM: ROPES that broke (a SET)");
        RopePost x = Check.town(TWO + "rope 0 1 10 99;".repeat(12));
        int[] wear = new int[12];
        int broken = 0;
        seed = 12;
        x.seed(12);
        x.cut(5);
        for (int turn = 0; turn < 14; turn++) {
            int due = 0;
            for (int r = 0; r < 12; r++) {
                if (r != 5 && wear[r] < 100 && draw(100) < 90) {
                    wear[r] += draw(40);
                    due |= wear[r] >= 100 ? 1 << r : 0;
                }
            }
            for (int r = 0; r < 12; r++) {
                draw(2);
            }
            broken |= due;
            Check.due("those that broke by this one, storm " + turn, x.storm(90), due);
            Check.due("whole ones", x.told(10), 4095 & ~broken & ~32);
        }
        Check.due("all of them in the end", broken, 4095 & ~32);
        Check.due("the last storm broke none", x.storm(100), 0);
        Check.due("a cut one has no wear", x.rope(5, 4), 0);
        Check.due("a broken one has no more", x.rope(11, 4), wear[11]);
    }

    // ---- rings

    private static void ringBounds() {
        Check.sentence("Ring i: what = 0 MINUTE, 1 ROPE; NONE: not so many. OUTSIDE (what)");
        int[][] due = {{0, 1}, {0, 0}, {2, 0}, {4, 4}};
        RopePost x = new RopePost();
        Twins.day(x);
        for (int i = 0; i < 4; i++) {
            Check.due("minute of ring " + i, x.ring(i, 0), due[i][0]);
            Check.due("rope of ring " + i, x.ring(i, 1), due[i][1]);
        }
        for (int i : new int[] {LEAST, -2, -1, 4, 5, 199, 200, 201, MOST}) {
            Check.due("ring(" + i + ", 0)", x.ring(i, 0), NONE);
            Check.due("ring(" + i + ", 1)", x.ring(i, 1), NONE);
        }
        for (int what : new int[] {LEAST, -1, 2, 3, MOST}) {
            for (int i : new int[] {LEAST, -1, 0, 3, 4, 200, MOST}) {
                Twins.refusedToday("ring(" + i + ", " + what + ")", y -> y.ring(i, what), O);
            }
        }
    }

    private static void ringOfRefused() {
        Check.sentence("A WIRE rings when a BOY goes on a ROPE");
        RopePost x = Check.town(TWO + "rope 0 1 10 99;rope 0 1 10 1;boy 0 9 10;boy 0 9 10;");
        Check.due("none yet", x.told(8), 0);
        x.go(0, 1);
        x.go(2, 0);
        x.go(0, 2);
        Check.due("none by refused ones", x.told(8), 0);
        x.go(1, 0);
        x.go(0, 0);
        Check.due("one by who went", x.told(8), 1);
        x.pass(1);
        Check.due("none by who came", x.told(8), 1);
    }

    private static void ringsFull() {
        Check.sentence("kept, the first 200: MINUTE, ROPE");
        RopePost x = Check.town(TWO + "rope 0 1 10 99;".repeat(4) + "boy 0 1 50;".repeat(4));
        for (int round = 0; round < 50; round++) {
            for (int b = 0; b < 4; b++) {
                x.go(b, 3 - b);
                if (round == 49) {
                    Check.due("rings", x.told(8), 4 * round + b + 1);
                }
            }
            x.pass(1);
        }
        x.keep(0);
        Check.due("the 201st goes as well", x.go(0, 0), 1);
        Check.due("it is not kept", x.told(8), 200);
        Check.due("nor told", x.ring(200, 0), NONE);
        Check.due("nor its rope", x.ring(200, 1), NONE);
        Check.due("nor the next", x.go(1, 1), 1);
        Check.due("still 200", x.told(8), 200);
        for (int i : new int[] {0, 1, 2, 3, 4, 100, 198, 199}) {
            Check.due("minute of ring " + i, x.ring(i, 0), i / 4);
            Check.due("rope of ring " + i, x.ring(i, 1), 3 - i % 4);
        }
        x.pass(1);
        Check.due("they have come", x.pole(1, 3), 3);
    }
}
