/** Promises 22 and 23: kept, newRope. */
public final class RopesTest {
    private static final int U = RopePost.UNKNOWN, O = RopePost.OUTSIDE, NONE = RopePost.NONE;
    private static final String FOUR = "pole 0 0 1;pole 0 0 1;pole 0 0 1;pole 0 0 1;";

    public static void main(String[] args) {
        keptRefusals();
        keptByTwo();
        keptByRings();
        keptByRopesThatCarryLittle();
        keptAll();
        newRopeRefusals();
        newRopeBest();
        newRopeFirstOfLike();
        newRopeLength();
        newRopeBesideBroken();
        Check.end("RopesTest");
    }

    private static void keptRefusals() {
        RopePost x = Check.town(FOUR + "rope 0 1 1 1;");
        Check.due("no such pole", x.kept(16), U);
        Check.due("one that is, one that is not", x.kept(17), U);
        Check.due("-1", x.kept(-1), U);
        Check.due("none", x.kept(0), 0);
        for (int p = 0; p < 4; p++) {
            Check.due("one", x.kept(1 << p), 0);
        }
        Check.due("joined, but not if it is cut", x.kept(3), NONE);
        Check.due("not joined", x.kept(12), NONE);
    }

    private static void keptByTwo() {
        RopePost x = Check.town(FOUR + "rope 0 1 1 1;rope 1 2 1 1;rope 0 1 9 9;rope 1 0 5 5;rope 1 2 5 5;");
        Check.due("two of three, the least set", x.kept(3), 5);
        Check.due("by both pairs", x.kept(7), 23);
        Check.due("by way of another", x.kept(5), 23);
        Check.due("the fourth is not joined", x.kept(15), NONE);
        x.cut(0);
        Check.due("whole ones alone", x.kept(3), 12);
        x.cut(2);
        Check.due("one is too few", x.kept(3), NONE);
        x.splice(0);
        Check.due("spliced", x.kept(3), 9);
    }

    private static void keptByRings() {
        RopePost x = Check.town(FOUR + "rope 0 1 1 1;rope 1 2 1 1;rope 2 3 1 1;rope 3 0 1 1;rope 0 2 1 1;rope 1 3 1 1;");
        Check.due("three by three", x.kept(7), 19);
        Check.due("all by four", x.kept(15), 15);
        Check.due("two by three", x.kept(3), 19);
        Check.due("the far two", x.kept(10), 38);
        x.cut(4);
        Check.due("without the diagonal", x.kept(5), 15);
        Check.due("by the other one", x.kept(3), 41);
        x.cut(5);
        x.cut(0);
        Check.due("no ring left", x.kept(5), NONE);
    }

    private static void keptByRopesThatCarryLittle() {
        RopePost x = Check.town("pole 0 0 1;pole 0 0 1;rope 0 1 99 1;rope 0 1 1 999;boy 0 200 1;");
        x.wet(0, true);
        x.go(0, 1);
        Check.due("by whole ropes, whoever is on them", x.kept(3), 3);
    }

    private static void keptAll() {
        StringBuilder town = new StringBuilder();
        for (int p = 0; p < 8; p++) {
            town.append("pole 0 0 1;");
        }
        for (int p = 0; p < 8; p++) {
            town.append("rope ").append(p).append(' ').append((p + 1) % 8).append(" 1 1;");
        }
        town.append("rope 0 1 1 1;rope 1 2 1 1;rope 2 3 1 1;rope 0 4 1 1;");
        RopePost x = Check.town(town.toString());
        Check.due("the ring of eight", x.kept(255), 255);
        Check.due("half of it", x.kept(17), 2063);
        x.cut(0);
        Check.due("by the other rope", x.kept(255), 510);
        x.cut(8);
        Check.due("the ring is open", x.kept(255), NONE);
        Check.due("a ring by the diagonal", x.kept(0b11110001), 2288);
    }

    private static void newRopeRefusals() {
        RopePost x = Check.town("pole 0 0 1;pole 9 0 1;rope 0 1 1 1;");
        Check.due("-1", x.newRope(-1), O);
        Check.due("3", x.newRope(3), O);
        for (int what = 0; what < 3; what++) {
            Check.due("no such pair", x.newRope(what), NONE);
            Check.due("one pole", Check.town("pole 0 0 1;").newRope(what), NONE);
        }
    }

    private static void due(RopePost x, int p, int q, int sum) {
        Check.due("newRope(0)", x.newRope(0), p);
        Check.due("newRope(1)", x.newRope(1), q);
        Check.due("newRope(2)", x.newRope(2), sum);
    }

    private static void newRopeBest() {
        RopePost x = Check.town("pole 0 0 1;pole 10 0 1;pole 20 0 1;pole 30 5 1;rope 0 1 50 1;rope 1 2 10 1;rope 2 3 15 1;");
        // 0-2 by 20: 01 30, 02 20, 03 35, 12 10, 13 25, 23 15.
        due(x, 0, 2, 135);
        x = Check.town("pole 0 0 1;pole 1 0 1;pole 0 50 1;pole 0 51 1;rope 0 1 1 1;rope 2 3 1 1;");
        // 0-2 by 50: 01 1, 02 50, 03 51, 12 51, 13 52, 23 1.
        due(x, 0, 2, 206);
        x = Check.town("pole 0 0 1;pole 1 0 1;pole 0 50 1;");
        // 01 1, both others not joined; any other leaves two as well.
        due(x, 0, 1, 1999);
    }

    private static void newRopeFirstOfLike() {
        RopePost x = Check.town("pole 0 0 1;pole 9 0 1;pole 9 9 1;pole 0 9 1;");
        due(x, 0, 1, 9 + 5 * 999);
        x = Check.town("pole 0 0 1;pole 9 0 1;pole 9 9 1;pole 0 9 1;rope 0 1 9 1;rope 1 2 9 1;rope 2 3 9 1;rope 3 0 9 1;");
        due(x, 0, 2, 4 * 9 + 2 * 18);
        x = Check.town("pole 0 0 1;pole 1 0 1;pole 2 0 1;rope 2 1 1 1;rope 1 0 1 1;");
        due(x, 0, 2, 4);
    }

    private static void newRopeLength() {
        RopePost x = Check.town("pole 0 0 1;pole 0 0 1;");
        due(x, NONE, NONE, NONE);
        x = Check.town("pole 0 0 1;pole 50 50 1;");
        due(x, NONE, NONE, NONE);
        x = Check.town("pole 0 0 1;pole 50 49 1;");
        due(x, 0, 1, 99);
        x = Check.town("pole 0 0 1;pole 0 1 1;");
        due(x, 0, 1, 1);
        x = Check.town("pole 5 0 1;pole 5 0 1;pole 5 7 1;");
        due(x, 0, 2, 7 + 2 * 999);
    }

    private static void newRopeBesideBroken() {
        RopePost x = Check.town("pole 0 0 1;pole 0 4 1;pole 0 8 1;rope 1 0 40 1;rope 1 2 40 1;");
        due(x, 0, 2, 88);
        x.cut(0);
        due(x, 0, 1, 4 + 40 + 44);
        x.wet(1, true);
        due(x, 0, 1, 4 + 40 + 44);
        x.cut(1);
        due(x, 0, 1, 4 + 2 * 999);
    }
}
