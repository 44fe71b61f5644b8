import java.util.List;

/** The edges of promises 30 to 32, and of the 512 calls: seed, keep, goBack. */
public final class EdgeImagesTest {
    private static final int U = RopePost.UNKNOWN, O = RopePost.OUTSIDE, NOT = RopePost.NOT, NONE = RopePost.NONE;
    private static final int LEAST = Integer.MIN_VALUE, MOST = Integer.MAX_VALUE;

    public static void main(String[] args) {
        seedBounds();
        seedTells();
        seedOfANewTown();
        keepUnknown();
        keepAnew();
        goBackUnknown();
        goBackNot();
        goBackAgain();
        imagesKeepAll();
        imagesKeepLoads();
        imagesKeepRings();
        imagesKeepNoMore();
        imagesOfNothing();
        imagesAreGone();
        lastOfTheCalls();
        Check.end("EdgeImagesTest");
    }

    // ---- seed

    private static void seedBounds() {
        Check.sentence("THE SEED becomes v (0 .. 2147483647). OUTSIDE");
        for (int v : new int[] {-1, -2, RopePost.UNKNOWN, LEAST, LEAST + 1}) {
            Twins.refusedToday("seed(" + v + ")", x -> x.seed(v), O);
        }
        RopePost x = new RopePost();
        Check.due("seed(0)", x.seed(0), 0);
        Check.due("seed(1)", x.seed(1), 0);
        Check.due("seed(2147483646)", x.seed(2147483646), 1);
        Check.due("seed(2147483647)", x.seed(2147483647), 2147483646);
        Check.due("and back", x.seed(0), 2147483647);
    }

    private static void seedTells() {
        Check.sentence("THE SEED becomes v: what it was; (0 at first");
        RopePost x = Check.town("pole 0 0 1;pole 0 0 1;rope 0 1 1 1;");
        Check.due("0 at first", x.seed(0), 0);
        x.storm(0);
        long due = 0;
        for (int k = 0; k < 2; k++) {
            due = (due * 1103515245L + 12345L) % 2147483648L;
        }
        Check.due("what a storm left", x.seed(9), due);
        Check.due("what was told", x.seed(8), 9);
    }

    private static void seedOfANewTown() {
        Check.sentence("town: MINUTE 0, all where they were told, ROPES whole, dry, without WEAR, no rings, sightings (THE SEED is not of these)");
        RopePost x = new RopePost();
        x.seed(77);
        Check.feed(x, "pole 0 0 1;");
        x.town();
        Check.due("behind town()", x.seed(78), 77);
        x.feed(1, '?');
        x.town();
        Check.due("behind a fault", x.seed(0), 78);
    }

    // ---- keep, goBack

    private static void keepUnknown() {
        Check.sentence("keep: UNKNOWN");
        for (int none : new int[] {LEAST, -1, 2, 3, 31, 32, MOST}) {
            Twins.refusedToday("keep(" + none + ")", x -> x.keep(none), U);
        }
        RopePost x = new RopePost();
        Check.due("keep(0)", x.keep(0), 1);
        Check.due("keep(1)", x.keep(1), 1);
    }

    private static void keepAnew() {
        Check.sentence("IMAGE i becomes what is so: 1");
        RopePost x = new RopePost();
        for (int i = 0; i < 2; i++) {
            x.pass(1);
            Check.due("kept", x.keep(i), 1);
        }
        x.pass(1);
        Check.due("kept anew", x.keep(0), 1);
        x.pass(1);
        x.goBack(0);
        Check.due("the later one", x.told(5), 3);
        x.goBack(1);
        Check.due("the other is as it was", x.told(5), 2);
    }

    private static void goBackUnknown() {
        Check.sentence("goBack: UNKNOWN");
        for (int none : new int[] {LEAST, -1, 2, 3, 31, 32, MOST}) {
            Twins.refusedToday("goBack(" + none + ")", x -> x.goBack(none), U);
            Check.due("goBack(" + none + "), unknown ahead of not", new RopePost().goBack(none), U);
        }
    }

    private static void goBackNot() {
        Check.sentence("goBack: NOT: it was not kept");
        for (int i = 0; i < 2; i++) {
            int kept = 1 - i, other = i;
            Check.due("none is kept", new RopePost().goBack(i), NOT);
            Twins.refused("goBack(" + i + ") with the other kept", x -> keepOne(x, kept), x -> x.goBack(other), NOT);
        }
    }

    private static void keepOne(RopePost x, int i) {
        Check.feed(x, "pole 0 0 5;pole 0 0 5;rope 0 1 10 99;boy 0 1 5;load 0 1 1 1 plain;");
        x.town();
        x.pass(3);
        x.keep(i);
        x.take(0, 0);
        x.go(0, 0);
        x.pass(1);
    }

    private static void goBackAgain() {
        Check.sentence("What is so becomes IMAGE i: 1");
        RopePost x = new RopePost();
        keepOne(x, 1);
        for (int turn = 0; turn < 3; turn++) {
            Check.due("back", x.goBack(1), 1);
            Check.due("minute", x.told(5), 3);
            Check.due("he is at his pole", x.boy(0, 0), 0);
            Check.due("and goes again", x.go(0, 0), 2);
            x.pass(9);
        }
    }

    private static void imagesKeepAll() {
        Check.sentence("IMAGES 0, 1 keep BOYS, LOADS, ROPES, what was had, THE MINUTE, rings, THE SEED");
        for (int i = 0; i < 2; i++) {
            RopePost x = new RopePost();
            Twins.day(x);
            List<Integer> now = Twins.today(x);
            x.keep(i);
            // All is changed that an image keeps.
            x.go(0, 1);
            x.go(1, 3);
            x.pass(60);
            x.lay(0, 1);
            x.splice(2);
            x.cut(1);
            for (int r = 0; r < 5; r++) {
                x.wet(r, r < 2);
            }
            x.seed(1);
            x.storm(100);
            for (int r = 0; r < 5; r++) {
                x.wet(r, r != 2 && r != 3);
            }
            x.goBack(i);
            Twins.same("gone back to " + i + ",", Twins.today(x), now);
            x = new RopePost();
            Twins.day(x);
            x.keep(i);
            int later = x.pass(20);
            List<Integer> then = Twins.today(x);
            x.goBack(i);
            Check.due("as it went on", x.pass(20), later);
            Twins.same("as it went on from " + i + ",", Twins.today(x), then);
        }
    }

    private static void imagesKeepLoads() {
        Check.sentence("IMAGES 0, 1 keep LOADS");
        RopePost x = Check.town("pole 0 0 5;pole 0 0 5;pole 0 0 5;rope 0 1 10 99;boy 0 1 10;load 0 2 0 1 plain;load 0 1 0 2 plain;");
        x.keep(0);
        x.take(0, 0);
        x.take(0, 1);
        x.keep(1);
        x.go(0, 0);
        x.pass(1);
        x.lay(0, 0);
        Check.due("laid down", x.load(0, 0), 1);
        Check.due("delivered", x.told(7), 2);
        x.goBack(1);
        Check.due("carried", x.boy(0, 5), 3);
        Check.due("it lies nowhere", x.load(0, 0), NONE);
        Check.due("not delivered", x.told(7), 0);
        Check.due("nothing had", x.told(6), 0);
        x.goBack(0);
        Check.due("not carried", x.boy(0, 5), 0);
        Check.due("it lies where it lay", x.load(0, 0), 0);
        Check.due("both lie there", x.pole(0, 4), 3);
    }

    private static void imagesKeepRings() {
        Check.sentence("IMAGES 0, 1 keep rings");
        RopePost x = Check.town("pole 0 0 5;pole 0 0 5;" + "rope 0 1 10 99;".repeat(4) + "boy 0 1 50;".repeat(4));
        x.keep(0);
        for (int round = 0; round < 50; round++) {
            for (int b = 0; b < 4; b++) {
                x.go(b, b);
            }
            x.pass(1);
        }
        x.keep(1);
        x.goBack(0);
        Check.due("none", x.told(8), 0);
        Check.due("not one", x.ring(0, 0), NONE);
        x.pass(99);
        for (int b = 0; b < 4; b++) {
            x.go(b, 3 - b);
        }
        Check.due("other ones", x.told(8), 4);
        Check.due("the minute of another", x.ring(0, 0), 99);
        Check.due("the rope of another", x.ring(0, 1), 3);
        x.goBack(1);
        Check.due("all 200", x.told(8), 200);
        for (int i : new int[] {0, 1, 2, 3, 4, 103, 198, 199}) {
            Check.due("minute of ring " + i, x.ring(i, 0), i / 4);
            Check.due("rope of ring " + i, x.ring(i, 1), i % 4);
        }
    }

    private static void imagesKeepNoMore() {
        Check.sentence("IMAGES keep BOYS, LOADS, ROPES, what was had, THE MINUTE, rings, THE SEED (neither sightings nor THE TEXT)");
        RopePost x = new RopePost();
        Twins.day(x);
        x.keep(0);
        x.see(0, 0, 9);
        Check.feed(x, "pole");
        x.goBack(0);
        Check.due("sightings", x.told(9), 4);
        Check.due("bytes", x.told(4), 15);
        Check.due("fault", x.fault(), 0);
        x.forget();
        x.goBack(0);
        Check.due("forgotten", x.told(9), 0);
        Check.due("the text goes on", x.town(), -11);
        Check.due("its fault", x.fault(), 15);
        Check.due("behind a fault", x.goBack(0), 1);
        Check.due("the fault stays", x.fault(), 15);
    }

    private static void imagesOfNothing() {
        Check.sentence("A new object: No POLES; IMAGE i becomes what is so: 1");
        RopePost x = new RopePost();
        Check.due("keep", x.keep(0), 1);
        x.pass(5);
        x.seed(5);
        Check.due("goBack", x.goBack(0), 1);
        Check.due("minute", x.told(5), 0);
        Check.due("seed", x.seed(0), 0);
    }

    private static void imagesAreGone() {
        Check.sentence("town: IMAGES are gone");
        RopePost x = new RopePost();
        x.keep(0);
        x.keep(1);
        x.feed(1, '?');
        x.town();
        Check.due("not by a fault: 0", x.goBack(0), 1);
        Check.due("not by a fault: 1", x.goBack(1), 1);
        x.town();
        Check.due("by a town of nothing: 0", x.goBack(0), NOT);
        Check.due("by a town of nothing: 1", x.goBack(1), NOT);
        x.keep(1);
        Check.due("kept anew", x.goBack(1), 1);
        Check.due("the other is not", x.goBack(0), NOT);
    }

    // ---- 512 calls

    private static void lastOfTheCalls() {
        Check.sentence("An object is used for at most 512 calls after it has been made");
        RopePost x = new RopePost();
        for (int call = 1; call < 512; call++) {
            x.pass(99);
        }
        Check.due("the 512th tells THE MINUTE", x.told(5), 511 * 99);
        x = new RopePost();
        for (int call = 1; call < 512; call++) {
            Check.due("feed " + call, x.feed(1, ' '), call <= 500 ? call : RopePost.FULL);
        }
        Check.due("the 512th reads the text", x.town(), 0);
        // Nine calls tell the town, and 251 times a go and a minute are 502 more.
        x = Check.town("pole 0 0 1;pole 0 9 1;rope 0 1 1 1;rope 0 1 1 1;boy 0 1 50;");
        for (int turn = 0; turn < 251; turn++) {
            boolean whole = turn < 200;
            Check.due("go " + turn, x.go(0, turn % 2), whole ? 1 : NOT);
            x.pass(1);
        }
        Check.due("the 512th tells where he is", x.boy(0, 0), 0);
    }
}
