import java.util.function.ToIntFunction;

/** The edges of promises 1 and 5 to 9: a new object, what is told of the town, and the constants. */
public final class EdgeFaceTest {
    private static final int U = RopePost.UNKNOWN, O = RopePost.OUTSIDE, NOT = RopePost.NOT, NONE = RopePost.NONE;
    private static final int LEAST = Integer.MIN_VALUE, MOST = Integer.MAX_VALUE;

    /** All that a town can have, every number of it unlike its neighbour's. */
    private static final String FULLEST = "pole 10 20 5;pole 11 21 4;pole 12 22 3;pole 13 23 2;pole 14 24 1;pole 15 25 2;pole 16 26 3;pole 17 27 4;"
        + "rope 0 1 20 600;rope 1 2 21 601;rope 2 3 22 602;rope 3 4 23 603;rope 4 5 24 604;rope 5 6 25 605;rope 6 7 26 606;"
        + "rope 7 0 27 607;rope 0 2 28 608;rope 2 4 29 609;rope 4 6 30 610;rope 6 0 31 611;"
        + "boy 0 101 11;boy 0 102 12;boy 0 103 13;boy 0 104 14;"
        + "load 0 1 1 31 plain;load 0 2 2 32 alive;load 0 3 3 33 level;load 0 4 4 34 long;";

    public static void main(String[] args) {
        constants();
        newObject();
        newObjectCalls();
        toldBounds();
        toldOfTheFullest();
        toldAtItsMost();
        poleBounds();
        poleOfTheFullest();
        poleSets();
        ropeBounds();
        ropeOfTheFullest();
        boyBounds();
        boyOfTheFullest();
        loadBounds();
        loadOfTheFullest();
        unknownAheadOfOutside();
        Check.end("EdgeFaceTest");
    }

    private static void constants() {
        Check.sentence("NONE = -1, UNKNOWN = -1000000001, OUTSIDE = -1000000002, NOT = -1000000003, FULL = -1000000004");
        Check.due("NONE", NONE, -1);
        Check.due("UNKNOWN", U, -1000000001);
        Check.due("OUTSIDE", O, -1000000002);
        Check.due("NOT", NOT, -1000000003);
        Check.due("FULL", RopePost.FULL, -1000000004);
    }

    private static void newObject() {
        Check.sentence("A new object: No POLES");
        RopePost x = new RopePost();
        for (int what = 0; what <= 10; what++) {
            Check.due("told(" + what + ")", x.told(what), 0);
        }
        Check.due("pole(0, 0)", x.pole(0, 0), U);
        Check.due("rope(0, 0)", x.rope(0, 0), U);
        Check.due("boy(0, 0)", x.boy(0, 0), U);
        Check.due("load(0, 0)", x.load(0, 0), U);
        Check.due("fault()", x.fault(), NONE);
        Check.due("town()", x.town(), 0);
    }

    private static void newObjectCalls() {
        Check.sentence("A new object: No POLES; UNKNOWN (a POLE, ROPE, BOY, LOAD, IMAGE that there is not; bits of such)");
        RopePost x = new RopePost();
        Check.due("go", x.go(0, 0), U);
        Check.due("take", x.take(0, 0), U);
        Check.due("lay", x.lay(0, 0), U);
        Check.due("cut", x.cut(0), U);
        Check.due("splice", x.splice(0), U);
        Check.due("wet", x.wet(0, true), U);
        Check.due("far", x.far(0, 0, 0), U);
        Check.due("round", x.round(0, 0), U);
        Check.due("dealt(0)", x.dealt(0), U);
        Check.due("dealt(NONE)", x.dealt(NONE), 0);
        Check.due("kept(1)", x.kept(1), U);
        Check.due("kept(0)", x.kept(0), 0);
        Check.due("newRope", x.newRope(0), NONE);
        Check.due("odds", x.odds(0, 1, 0), U);
        Check.due("pays", x.pays(0, 0, 0, 1, 0, 0), U);
        Check.due("see", x.see(0, 0, 0), U);
        Check.due("who", x.who(0, 0), U);
        Check.due("judge", x.judge(), NONE);
        Check.due("forget", x.forget(), 0);
        Check.due("ring", x.ring(0, 0), NONE);
        Check.due("storm", x.storm(100), 0);
        Check.due("no draws without ropes", x.seed(0), 0);
        Check.due("goBack", x.goBack(0), NOT);
        Check.due("pass", x.pass(99), 0);
        Check.due("minute", x.told(5), 99);
    }

    // ---- told

    private static void toldBounds() {
        Check.sentence("told: 0 .. 10. OUTSIDE");
        for (int what : new int[] {LEAST, -2, -1, 11, 12, MOST}) {
            Twins.refusedToday("told(" + what + ")", x -> x.told(what), O);
            Check.due("told(" + what + ") of a new one", new RopePost().told(what), O);
        }
    }

    private static void toldOfTheFullest() {
        Check.sentence("0 POLES, 1 ROPES, 2 BOYS, 3 LOADS, 10 ROPES that are whole (a SET)");
        RopePost x = Check.town(FULLEST);
        int[] due = {8, 12, 4, 4, 0, 0, 0, 0, 0, 0, 4095};
        for (int what = 0; what <= 10; what++) {
            Check.due("told(" + what + ")", x.told(what), due[what]);
        }
        for (int r = 11; r >= 0; r--) {
            x.cut(r);
            Check.due("whole ones below " + r, x.told(10), (1 << r) - 1);
        }
        x.splice(11);
        Check.due("the last alone", x.told(10), 2048);
    }

    private static void toldAtItsMost() {
        Check.sentence("4 bytes of THE TEXT, 5 THE MINUTE, 6 WORTH that was had, 7 LOADS that are DELIVERED (a SET), 8 rings, 9 sightings");
        RopePost x = Check.town("pole 0 0 5;pole 0 0 5;rope 0 1 20 999;boy 0 1 50;boy 0 1 50;"
            + "load 0 1 0 999 plain;load 0 1 0 999 alive;load 0 1 0 999 level;load 0 1 0 999 long;");
        x.take(0, 0);
        x.take(0, 1);
        x.take(1, 2);
        x.take(1, 3);
        x.go(0, 0);
        x.pass(1);
        Check.due("two of them", x.told(7), 3);
        x.go(1, 0);
        x.pass(2);
        Check.due("all of them", x.told(7), 15);
        Check.due("all they are worth", x.told(6), 4 * 999);
        Check.due("rings", x.told(8), 2);
        for (int k = 0; k < 20; k++) {
            x.see(0, 0, 0);
        }
        Check.due("sightings", x.told(9), 20);
        Check.feed(x, " ".repeat(500));
        Check.due("bytes", x.told(4), 500);
        for (int k = 0; k < 300; k++) {
            x.pass(99);
        }
        Check.due("minutes", x.told(5), 3 + 300 * 99);
    }

    // ---- pole, rope, boy, load

    /** Numbers from 0 to count - 1 are known, all others are not; what from 0 to last is fine, all other is outside. */
    private static void bounds(String name, int count, int last, Ask ask) {
        for (int i : new int[] {LEAST, -2, -1, count, count + 1, 31, 32, MOST}) {
            for (int what : new int[] {0, last}) {
                Twins.refusedToday(name + "(" + i + ", " + what + ")", x -> ask.of(x, i, what), U);
            }
            for (int what : new int[] {-1, last + 1}) {
                Twins.refusedToday(name + "(" + i + ", " + what + "), unknown ahead of outside", x -> ask.of(x, i, what), U);
            }
        }
        for (int what : new int[] {LEAST, -1, last + 1, MOST}) {
            for (int i : new int[] {0, count - 1}) {
                Twins.refusedToday(name + "(" + i + ", " + what + ")", x -> ask.of(x, i, what), O);
            }
        }
    }

    private interface Ask {
        int of(RopePost x, int i, int what);
    }

    /** At the most that there can be: the last is known, the next is not. */
    private static void atMost(String name, int most, int last, Ask ask) {
        RopePost x = Check.town(FULLEST);
        Check.due("the next " + name, ask.of(x, most, 0), U);
        Check.due("the next " + name + ", outside", ask.of(x, most, last + 1), U);
        Check.due("the last " + name + ", outside", ask.of(x, most - 1, last + 1), O);
        Check.due("the last " + name + ", -1", ask.of(x, most - 1, -1), O);
    }

    private static void poleBounds() {
        Check.sentence("Of a POLE: what = 0 X, .. 4 LOADS lying there. UNKNOWN, OUTSIDE");
        bounds("pole", 4, 4, RopePost::pole);
        atMost("pole", 8, 4, RopePost::pole);
    }

    private static void poleOfTheFullest() {
        Check.sentence("Of a POLE: what = 0 X, 1 Y, 2 BEARS; What has a number has it from 0 on, as it comes");
        RopePost x = Check.town(FULLEST);
        int[] bears = {5, 4, 3, 2, 1, 2, 3, 4};
        for (int p = 0; p < 8; p++) {
            Check.due("X", x.pole(p, 0), 10 + p);
            Check.due("Y", x.pole(p, 1), 20 + p);
            Check.due("BEARS", x.pole(p, 2), bears[p]);
            Check.due("BOYS there", x.pole(p, 3), p == 0 ? 15 : 0);
            Check.due("LOADS lying there", x.pole(p, 4), p == 0 ? 15 : 0);
        }
    }

    private static void poleSets() {
        Check.sentence("3 BOYS there (a SET), 4 LOADS lying there (a SET)");
        RopePost x = Check.town(FULLEST);
        for (int l = 0; l < 4; l++) {
            x.take(l, l);
            Check.due("lying loads", x.pole(0, 4), 15 >> l + 1 << l + 1);
        }
        x.lay(3, 3);
        Check.due("laid down again", x.pole(0, 4), 8);
        int[] ropes = {0, 7, 8, 11};
        for (int b = 0; b < 4; b++) {
            x.go(b, ropes[b]);
            Check.due("boys at the pole", x.pole(0, 3), 15 >> b + 1 << b + 1);
        }
        x.pass(9);
        int[] ends = {1, 7, 2, 6};
        for (int b = 0; b < 4; b++) {
            Check.due("boys at the end", x.pole(ends[b], 3), 1 << b);
            Check.due("loads at the end", x.pole(ends[b], 4), 0);
        }
    }

    private static void ropeBounds() {
        Check.sentence("Of a ROPE: what = 0, 1 its POLES, .. 7 who is on it. UNKNOWN, OUTSIDE");
        bounds("rope", 5, 7, RopePost::rope);
        atMost("rope", 12, 7, RopePost::rope);
    }

    private static void ropeOfTheFullest() {
        Check.sentence("Of a ROPE: what = 0, 1 its POLES, 2 L, 3 C, 4 WEAR, 5 whether it is WET, 6 whole (1, 0), 7 who is on it (NONE)");
        RopePost x = Check.town(FULLEST);
        int[] from = {0, 1, 2, 3, 4, 5, 6, 7, 0, 2, 4, 6}, to = {1, 2, 3, 4, 5, 6, 7, 0, 2, 4, 6, 0};
        for (int r = 0; r < 12; r++) {
            int[] due = {from[r], to[r], 20 + r, 600 + r, 0, 0, 1, NONE};
            for (int what = 0; what <= 7; what++) {
                Check.due("rope(" + r + ", " + what + ")", x.rope(r, what), due[what]);
            }
        }
        x.go(3, 11);
        x.wet(11, true);
        x.cut(10);
        Check.due("the last boy on the last rope", x.rope(11, 7), 3);
        Check.due("the last rope is wet", x.rope(11, 5), 1);
        Check.due("its neighbour is dry", x.rope(10, 5), 0);
        Check.due("its neighbour is not whole", x.rope(10, 6), 0);
        Check.due("it is whole", x.rope(11, 6), 1);
        x.pass(3);
        Check.due("nobody on it", x.rope(11, 7), NONE);
        Check.due("its wear", x.rope(11, 4), 11);
        Check.due("no wear of its neighbour", x.rope(10, 4), 0);
    }

    private static void boyBounds() {
        Check.sentence("Of a BOY: what = 0 POLE, .. 5 LOADS that he carries. UNKNOWN, OUTSIDE");
        bounds("boy", 4, 5, RopePost::boy);
        Check.due("a boy less", Check.town("pole 0 0 5;boy 0 1 1;boy 0 1 1;boy 0 1 1;").boy(3, 0), U);
    }

    private static void boyOfTheFullest() {
        Check.sentence("0 POLE (NONE: on a ROPE), 1 ROPE (NONE), 2 minutes to go, 3 pounds, 4 PACE, 5 LOADS that he carries (a SET)");
        RopePost x = Check.town(FULLEST);
        for (int b = 0; b < 4; b++) {
            int[] due = {0, NONE, 0, 101 + b, 11 + b, 0};
            for (int what = 0; what <= 5; what++) {
                Check.due("boy(" + b + ", " + what + ")", x.boy(b, what), due[what]);
            }
        }
        x.take(3, 2);
        x.take(3, 3);
        x.go(3, 11);
        // 31 feet at 14 are 3 minutes, and 1 more for the level load.
        int[] due = {NONE, 11, 4, 104, 14, 12};
        for (int what = 0; what <= 5; what++) {
            Check.due("on a rope, boy(3, " + what + ")", x.boy(3, what), due[what]);
        }
        Check.due("the other boys are at the pole", x.boy(2, 0), 0);
        Check.due("and carry nothing", x.boy(2, 5), 0);
        x.pass(3);
        Check.due("the last minute to go", x.boy(3, 2), 1);
        x.pass(1);
        Check.due("none to go", x.boy(3, 2), 0);
        Check.due("on no rope", x.boy(3, 1), NONE);
        Check.due("at the pole", x.boy(3, 0), 6);
    }

    private static void loadBounds() {
        Check.sentence("Of a LOAD: what = 0 where it lies, .. 6 whether it is DELIVERED. UNKNOWN, OUTSIDE");
        bounds("load", 4, 6, RopePost::load);
        Check.due("a load less", Check.town("pole 0 0 5;pole 0 0 5;load 0 1 1 1 long;load 0 1 1 1 long;load 0 1 1 1 long;").load(3, 0), U);
    }

    private static void loadOfTheFullest() {
        Check.sentence("0 where it lies (NONE: carried, DELIVERED), 1 to which POLE, 2 pounds, 3 WORTH, 4 KIND, 5 who carries it (NONE), 6 whether it is DELIVERED (1, 0)");
        RopePost x = Check.town(FULLEST);
        for (int l = 0; l < 4; l++) {
            due(x, l, 0, NONE, 0);
        }
        x.take(3, 1);
        due(x, 1, NONE, 3, 0);
        due(x, 0, 0, NONE, 0);
        x.lay(3, 1);
        due(x, 1, 0, NONE, 0);
        x.take(2, 1);
        x.go(2, 8);
        x.pass(2);
        due(x, 1, NONE, 2, 0);
        x.pass(1);
        due(x, 1, NONE, NONE, 1);
        due(x, 2, 0, NONE, 0);
    }

    private static void due(RopePost x, int l, int lies, int boy, int delivered) {
        int[] due = {lies, l + 1, l + 1, 31 + l, l, boy, delivered};
        for (int what = 0; what <= 6; what++) {
            Check.due("load(" + l + ", " + what + ")", x.load(l, what), due[what]);
        }
    }

    private static void unknownAheadOfOutside() {
        Check.sentence("REFUSALS, of several the first in this order: UNKNOWN, OUTSIDE");
        RopePost empty = new RopePost();
        ask("pole", empty, x -> x.pole(0, 5));
        ask("rope", empty, x -> x.rope(0, 8));
        ask("boy", empty, x -> x.boy(0, 6));
        ask("load", empty, x -> x.load(0, 7));
        ask("pole", empty, x -> x.pole(-1, -1));
        ask("rope", empty, x -> x.rope(-1, -1));
        ask("boy", empty, x -> x.boy(-1, -1));
        ask("load", empty, x -> x.load(-1, -1));
    }

    private static void ask(String name, RopePost x, ToIntFunction<RopePost> call) {
        Check.due(name + " of none, outside", call.applyAsInt(x), U);
    }
}
