/** Promises 30 to 32: seed, keep, goBack. */
public final class ImagesTest {
    private static final int U = RopePost.UNKNOWN, NOT = RopePost.NOT;

    public static void main(String[] args) {
        seed();
        refusals();
        goingBack();
        twoImages();
        ringsOfImages();
        whatIsNotKept();
        Check.end("ImagesTest");
    }

    private static void seed() {
        RopePost x = new RopePost();
        Check.due("0 at first", x.seed(7), 0);
        Check.due("-1", x.seed(-1), RopePost.OUTSIDE);
        Check.due("least", x.seed(Integer.MIN_VALUE), RopePost.OUTSIDE);
        Check.due("as it was", x.seed(2147483647), 7);
        Check.due("the most", x.seed(0), 2147483647);
        x = Check.town("pole 0 0 1;pole 0 1 1;rope 0 1 1 1;");
        x.seed(1);
        x.storm(0);
        // One draw for the rope, which is not below 0, and one for whether it is wet.
        long due = 1;
        for (int k = 0; k < 2; k++) {
            due = (due * 1103515245L + 12345L) % 2147483648L;
        }
        Check.due("two draws on", x.seed(0), due);
    }

    private static void refusals() {
        RopePost x = new RopePost();
        Check.due("keep(2)", x.keep(2), U);
        Check.due("keep(-1)", x.keep(-1), U);
        Check.due("goBack(2)", x.goBack(2), U);
        Check.due("goBack(-1)", x.goBack(-1), U);
        Check.due("not kept 0", x.goBack(0), NOT);
        Check.due("not kept 1", x.goBack(1), NOT);
        Check.due("keep(1)", x.keep(1), 1);
        Check.due("still not kept 0", x.goBack(0), NOT);
        Check.due("kept 1", x.goBack(1), 1);
        Check.due("town", x.town(), 0);
        Check.due("gone by a new town", x.goBack(1), NOT);
    }

    private static final String TOWN = "pole 0 0 2;pole 0 9 2;pole 0 0 2;rope 0 1 9 99;rope 1 2 30 99;boy 0 9 3;boy 1 19 5;"
        + "load 0 1 1 7 plain;load 1 2 1 9 level;load 0 2 1 90 long;";

    /** All that an image keeps, and what it does not, in one row. */
    private static long[] all(RopePost x) {
        long[] row = new long[200];
        int n = 0;
        for (int what = 5; what <= 10; what++) {
            row[n++] = what == 9 ? 0 : x.told(what);
        }
        for (int r = 0; r < 2; r++) {
            for (int what = 4; what <= 7; what++) {
                row[n++] = x.rope(r, what);
            }
        }
        for (int b = 0; b < 2; b++) {
            for (int what = 0; what <= 5; what++) {
                row[n++] = x.boy(b, what);
            }
        }
        for (int l = 0; l < 3; l++) {
            row[n++] = x.load(l, 0);
            row[n++] = x.load(l, 5);
            row[n++] = x.load(l, 6);
        }
        for (int p = 0; p < 3; p++) {
            row[n++] = x.pole(p, 3);
            row[n++] = x.pole(p, 4);
        }
        for (int i = 0; i < 5; i++) {
            row[n++] = x.ring(i, 0);
            row[n++] = x.ring(i, 1);
        }
        int seed = x.seed(0);
        x.seed(seed);
        row[n] = seed;
        return row;
    }

    private static void same(String name, long[] got, long[] due) {
        for (int k = 0; k < due.length; k++) {
            Check.due(name + ", row " + k, got[k], due[k]);
        }
    }

    private static void change(RopePost x) {
        x.pass(1);
        x.go(1, 0);
        x.go(1, 1);
        x.pass(9);
        x.wet(0, true);
        x.cut(1);
        x.lay(0, 2);
        x.lay(1, 1);
        x.seed(99);
        x.storm(100);
    }

    private static void goingBack() {
        RopePost x = Check.town(TOWN);
        x.seed(12);
        x.take(0, 0);
        x.take(0, 2);
        x.take(1, 1);
        x.wet(1, true);
        x.cut(0);
        x.splice(0);
        x.lay(0, 2);
        x.go(0, 0);
        x.pass(2);
        long[] was = all(x);
        Check.due("keep", x.keep(0), 1);
        change(x);
        long[] then = all(x);
        Check.due("delivered since", then[2] != was[2] ? 1 : 0, 1);
        Check.due("goBack", x.goBack(0), 1);
        same("gone back", all(x), was);
        Check.due("far as kept", x.far(0, 0, 1), 3);
        Check.due("from the end to which he goes", x.round(0, 2), 1 + 30);
        change(x);
        same("the same again", all(x), then);
        Check.due("goBack a second time", x.goBack(0), 1);
        same("gone back a second time", all(x), was);
    }

    private static void twoImages() {
        RopePost x = Check.town(TOWN);
        x.keep(0);
        x.pass(5);
        x.keep(1);
        x.pass(5);
        Check.due("to 1", x.goBack(1), 1);
        Check.due("minute of 1", x.told(5), 5);
        Check.due("to 0", x.goBack(0), 1);
        Check.due("minute of 0", x.told(5), 0);
        Check.due("to 1 again", x.goBack(1), 1);
        Check.due("minute of 1 again", x.told(5), 5);
        Check.due("0 anew", x.keep(0), 1);
        x.pass(1);
        x.goBack(0);
        Check.due("the newer image", x.told(5), 5);
    }

    private static void ringsOfImages() {
        RopePost x = Check.town("pole 0 0 2;pole 0 9 2;rope 0 1 9 99;rope 0 1 9 99;boy 0 9 3;");
        x.keep(0);
        x.pass(2);
        x.go(0, 1);
        x.keep(1);
        x.goBack(0);
        Check.due("no rings", x.told(8), 0);
        Check.due("none at all", x.ring(0, 0), -1);
        x.go(0, 0);
        Check.due("another one", x.ring(0, 1), 0);
        x.goBack(1);
        Check.due("one ring", x.told(8), 1);
        Check.due("its minute", x.ring(0, 0), 2);
        Check.due("its rope", x.ring(0, 1), 1);
    }

    private static void whatIsNotKept() {
        RopePost x = Check.town(TOWN);
        x.see(0, 0, 1);
        x.keep(0);
        x.see(0, 0, 2);
        Check.feed(x, "pol");
        x.goBack(0);
        Check.due("sightings stay", x.told(9), 2);
        Check.due("the text stays", x.told(4), 3);
        x.town();
        Check.due("a fault", x.fault(), 0);
        Check.due("goBack behind a fault", x.goBack(0), 1);
        Check.due("the fault stays", x.fault(), 0);
    }
}
