/** Promises 10 to 18: going, taking, laying, minutes, cut and spliced ropes, wet ones, storms, rings. */
public final class MinutesTest {
    private static final int U = RopePost.UNKNOWN, O = RopePost.OUTSIDE, NOT = RopePost.NOT;

    public static void main(String[] args) {
        goingTakesMinutes();
        goingIsRefused();
        goingByPounds();
        goingWithLong();
        taking();
        laying();
        handingOn();
        passing();
        waiting();
        waitingInOrder();
        delivering();
        aliveUntilSixty();
        wearing();
        cutting();
        splicing();
        wetting();
        storming();
        stormBelow();
        stormPassesOver();
        ringing();
        Check.end("MinutesTest");
    }

    private static void goingTakesMinutes() {
        String town = "pole 0 0 5;pole 0 0 5;rope 0 1 21 999;rope 0 1 20 999;rope 0 1 1 999;rope 0 1 99 999;boy 0 1 10;"
            + "boy 0 1 1;load 0 1 0 0 level;load 0 1 0 0 level;load 0 1 0 0 plain;";
        int[][] due = {{3, 2, 1, 10}, {21, 20, 1, 99}};
        int[][] level = {{4, 3, 2, 15}, {31, 30, 2, 148}};
        for (int b = 0; b < 2; b++) {
            for (int r = 0; r < 4; r++) {
                Check.due("dry", Check.town(town).go(b, r), due[b][r]);
                Check.due("wet", gone(town, b, r, 0, true), 2 * due[b][r]);
                Check.due("plain", gone(town, b, r, 4, false), due[b][r]);
                Check.due("level", gone(town, b, r, 1, false), level[b][r]);
                Check.due("level and plain", gone(town, b, r, 6, false), level[b][r]);
                Check.due("level twice", gone(town, b, r, 3, false), level[b][r]);
                Check.due("level and wet", gone(town, b, r, 1, true), 2 * level[b][r]);
            }
        }
    }

    private static int gone(String town, int b, int r, int loads, boolean wet) {
        RopePost x = Check.town(town);
        for (int l = 0; l < 4; l++) {
            if ((loads >> l & 1) == 1) {
                x.take(b, l);
            }
        }
        x.wet(r, wet);
        return x.go(b, r);
    }

    private static void goingIsRefused() {
        RopePost x = Check.town("pole 0 0 5;pole 0 0 5;pole 0 0 5;rope 0 1 10 99;rope 1 2 10 99;rope 1 0 10 99;boy 0 9 5;boy 1 9 5;");
        Check.due("no such boy", x.go(2, 0), U);
        Check.due("no boy -1", x.go(-1, 0), U);
        Check.due("no such rope", x.go(0, 3), U);
        Check.due("no rope -1", x.go(0, -1), U);
        Check.due("it does not end there", x.go(0, 1), NOT);
        x.cut(0);
        Check.due("it is not whole", x.go(0, 0), NOT);
        Check.due("the other way round", x.go(0, 2), 2);
        Check.due("somebody is on it", x.go(1, 2), NOT);
        Check.due("he is on one", x.go(0, 2), NOT);
        x.splice(0);
        Check.due("he is on another", x.go(0, 0), NOT);
        Check.due("unlike ropes at once", x.go(1, 0), 2);
        Check.due("rings of those who went", x.told(8), 2);
        x.pass(2);
        Check.due("there", x.boy(0, 0), 1);
        Check.due("and back", x.boy(1, 0), 0);
        Check.due("from there on", x.go(0, 1), 2);
    }

    private static void goingByPounds() {
        RopePost x = Check.town("pole 0 0 5;pole 0 0 5;rope 0 1 10 100;rope 0 1 10 99;rope 0 1 10 110;rope 0 1 10 109;boy 0 100 5;"
            + "load 0 1 10 1 plain;load 0 1 1 1 plain;");
        Check.due("one pound too many", x.go(0, 1), NOT);
        x.take(0, 0);
        Check.due("with his load", x.go(0, 0), NOT);
        Check.due("with his load, one pound", x.go(0, 3), NOT);
        x.take(0, 1);
        Check.due("with both", x.go(0, 2), NOT);
        x.lay(0, 1);
        Check.due("as much as it carries", x.go(0, 2), 2);
    }

    private static void goingWithLong() {
        RopePost x = Check.town("pole 0 0 5;pole 0 0 5;rope 0 1 19 100;rope 0 1 20 99;boy 0 9 5;boy 0 9 5;"
            + "load 0 1 10 1 plain;load 0 1 1 1 long;");
        x.take(0, 0);
        x.take(0, 1);
        Check.due("19 feet", x.go(0, 0), NOT);
        Check.due("19 feet without", x.go(1, 0), 4);
        Check.due("20 feet", x.go(0, 1), 4);
    }

    private static void taking() {
        RopePost x = Check.town("pole 0 0 5;pole 0 0 5;rope 0 1 10 100;boy 0 9 5;boy 0 9 5;boy 1 9 5;"
            + "load 0 1 0 1 plain;load 0 1 1 1 long;load 0 1 1 1 plain;load 1 0 1 1 plain;");
        Check.due("no such boy", x.take(3, 0), U);
        Check.due("no boy -1", x.take(-1, 0), U);
        Check.due("no such load", x.take(0, 4), U);
        Check.due("no load -1", x.take(0, -1), U);
        Check.due("not where it lies", x.take(0, 3), NOT);
        Check.due("first", x.take(0, 2), 1);
        Check.due("twice", x.take(0, 2), NOT);
        Check.due("another has it", x.take(1, 2), NOT);
        Check.due("second", x.take(0, 0), 2);
        Check.due("third", x.take(0, 1), NOT);
        Check.due("set", x.boy(0, 5), 5);
        Check.due("another takes it", x.take(1, 1), 1);
        x.lay(1, 1);
        x.go(1, 0);
        Check.due("on a rope", x.take(1, 1), NOT);
        Check.due("on a rope, at its end", x.take(1, 3), NOT);
        x.pass(2);
        Check.due("there", x.take(1, 3), 1);
        Check.due("not there any more", x.take(1, 1), NOT);
    }

    private static void laying() {
        RopePost x = Check.town("pole 0 0 5;pole 0 0 5;pole 0 0 5;rope 0 1 10 100;rope 1 2 10 100;boy 0 9 5;boy 1 9 5;"
            + "load 0 2 0 5 plain;load 0 1 1 1 plain;");
        Check.due("no such boy", x.lay(2, 0), U);
        Check.due("no such load", x.lay(0, 2), U);
        Check.due("no boy -1", x.lay(-1, 0), U);
        Check.due("no load -1", x.lay(0, -1), U);
        Check.due("does not carry it", x.lay(0, 0), NOT);
        x.take(0, 0);
        x.take(0, 1);
        Check.due("another carries it", x.lay(1, 0), NOT);
        Check.due("one of two", x.lay(0, 1), 1);
        Check.due("it lies", x.load(1, 0), 0);
        Check.due("none has it", x.load(1, 5), -1);
        x.go(0, 0);
        Check.due("on a rope", x.lay(0, 0), NOT);
        x.pass(2);
        Check.due("laid down on the way", x.lay(0, 0), 0);
        Check.due("there", x.load(0, 0), 1);
        Check.due("of the pole", x.pole(1, 4), 1);
        Check.due("not delivered", x.told(7), 0);
    }

    private static void handingOn() {
        RopePost x = Check.town("pole 0 0 5;pole 0 0 5;pole 0 0 5;rope 0 1 10 100;rope 1 2 10 100;boy 0 9 5;boy 1 9 5;load 0 2 0 5 plain;");
        x.take(0, 0);
        x.go(0, 0);
        x.pass(2);
        x.lay(0, 0);
        Check.due("taken on", x.take(1, 0), 1);
        Check.due("goes on", x.go(1, 1), 2);
        Check.due("delivered", x.pass(2), 1);
        Check.due("worth", x.told(6), 5);
        Check.due("never again", x.take(1, 0), NOT);
        Check.due("nor laid", x.lay(1, 0), NOT);
    }

    private static void passing() {
        RopePost x = Check.town("pole 0 0 1;pole 0 0 5;rope 0 1 10 100;boy 0 9 5;");
        Check.due("pass(0)", x.pass(0), O);
        Check.due("pass(100)", x.pass(100), O);
        Check.due("pass(-1)", x.pass(-1), O);
        Check.due("nothing passed", x.told(5), 0);
        Check.due("pass(99)", x.pass(99), 0);
        Check.due("pass(1)", x.pass(1), 0);
        Check.due("minute", x.told(5), 100);
        x.go(0, 0);
        x.pass(1);
        Check.due("one less", x.boy(0, 2), 1);
        Check.due("not yet", x.boy(0, 0), -1);
        x.pass(1);
        Check.due("there", x.boy(0, 0), 1);
        Check.due("on none", x.boy(0, 1), -1);
        Check.due("no minutes", x.boy(0, 2), 0);
    }

    private static void waiting() {
        RopePost x = Check.town("pole 0 0 2;pole 0 0 1;rope 0 1 10 100;rope 0 1 10 100;boy 0 9 5;boy 1 9 10;load 0 1 1 3 plain;");
        x.take(0, 0);
        x.go(0, 0);
        Check.due("nothing comes", x.pass(5), 0);
        Check.due("waits on the rope", x.boy(0, 1), 0);
        Check.due("with one to go", x.boy(0, 2), 1);
        Check.due("no wear yet", x.rope(0, 4), 0);
        Check.due("a rope with one on it", x.cut(0), NOT);
        x.go(1, 1);
        Check.due("comes at once", x.pass(1), 1);
        Check.due("is there", x.boy(0, 0), 1);
        Check.due("the other too", x.boy(1, 0), 0);
        Check.due("wear", x.rope(0, 4), 2);
    }

    private static void waitingInOrder() {
        RopePost x = Check.town("pole 0 0 3;pole 0 0 2;rope 0 1 10 100;rope 0 1 10 100;rope 0 1 10 100;boy 0 9 5;boy 0 9 5;boy 0 9 5;");
        x.go(2, 2);
        x.go(1, 1);
        x.go(0, 0);
        x.pass(2);
        Check.due("the first two come", x.pole(1, 3), 3);
        Check.due("the third waits", x.boy(2, 2), 1);
        x.go(0, 0);
        x.pass(1);
        Check.due("then he comes", x.pole(1, 3), 6);
    }

    private static void delivering() {
        RopePost x = Check.town("pole 0 0 3;pole 0 0 2;pole 0 0 2;rope 0 1 10 100;rope 1 2 10 100;boy 0 9 5;boy 0 9 5;"
            + "load 0 1 1 3 plain;load 0 2 1 40 level;load 0 1 1 500 long;");
        x.take(0, 0);
        x.take(0, 1);
        Check.due("level", x.go(0, 0), 3);
        Check.due("not yet", x.pass(2), 0);
        Check.due("the one that is to go there", x.pass(1), 1);
        Check.due("the other is still carried", x.boy(0, 5), 2);
        Check.due("worth of it", x.told(6), 3);
        x.go(0, 1);
        Check.due("all that are delivered", x.pass(3), 3);
        Check.due("worth of both", x.told(6), 43);
        Check.due("still all", x.pass(1), 3);
        Check.due("set", x.told(7), 3);
    }

    private static void aliveUntilSixty() {
        String town = "pole 0 0 3;pole 0 0 2;rope 0 1 10 100;boy 0 9 5;load 0 1 1 7 alive;load 0 1 1 20 plain;";
        for (int late = 0; late < 2; late++) {
            RopePost x = Check.town(town);
            x.pass(58 + late);
            x.take(0, 0);
            x.take(0, 1);
            x.go(0, 0);
            Check.due("delivered", x.pass(2), 3);
            Check.due("worth at minute " + x.told(5), x.told(6), late == 0 ? 27 : 20);
        }
    }

    private static void wearing() {
        RopePost x = Check.town("pole 0 0 3;pole 0 0 2;rope 0 1 10 400;boy 0 99 50;load 0 1 101 7 plain;");
        x.go(0, 0);
        Check.due("on it", x.rope(0, 4), 0);
        x.pass(1);
        Check.due("99 pounds", x.rope(0, 4), 10);
        x.go(0, 0);
        x.pass(1);
        x.take(0, 0);
        x.go(0, 0);
        x.pass(1);
        Check.due("200 pounds, delivered by it", x.rope(0, 4), 41);
        for (int k = 0; k < 5; k++) {
            Check.due("goes", x.go(0, 0), 1);
            x.pass(1);
        }
        Check.due("91", x.rope(0, 4), 91);
        Check.due("whole", x.rope(0, 6), 1);
        Check.due("once more", x.go(0, 0), 1);
        Check.due("whole while he is on it", x.rope(0, 6), 1);
        x.pass(1);
        Check.due("101", x.rope(0, 4), 101);
        Check.due("broken", x.rope(0, 6), 0);
        Check.due("none whole", x.told(10), 0);
        Check.due("he is there", x.boy(0, 0), 1);
        Check.due("no more", x.go(0, 0), NOT);
        wearingToHundred();
    }

    private static void wearingToHundred() {
        RopePost x = Check.town("pole 0 0 3;pole 0 0 2;rope 0 1 10 400;boy 0 90 50;");
        for (int k = 0; k < 9; k++) {
            x.go(0, 0);
            x.pass(1);
        }
        Check.due("90", x.rope(0, 4), 90);
        x.go(0, 0);
        x.pass(1);
        Check.due("100", x.rope(0, 4), 100);
        Check.due("broken at 100", x.rope(0, 6), 0);
    }

    private static void cutting() {
        RopePost x = Check.town("pole 0 0 3;pole 0 0 2;rope 0 1 10 400;rope 0 1 10 400;boy 0 90 10;");
        Check.due("no such", x.cut(2), U);
        Check.due("-1", x.cut(-1), U);
        x.go(0, 0);
        Check.due("one is on it", x.cut(0), NOT);
        Check.due("the other", x.cut(1), 1);
        Check.due("twice", x.cut(1), NOT);
        Check.due("whole ones", x.told(10), 1);
        x.pass(1);
        Check.due("left", x.cut(0), 1);
        Check.due("its wear stays", x.rope(0, 4), 10);
        Check.due("none whole", x.told(10), 0);
    }

    private static void splicing() {
        RopePost x = Check.town("pole 0 0 3;pole 0 0 2;rope 0 1 10 400;boy 0 90 10;");
        Check.due("no such", x.splice(1), U);
        Check.due("-1", x.splice(-1), U);
        Check.due("whole", x.splice(0), NOT);
        x.go(0, 0);
        x.pass(1);
        x.wet(0, true);
        Check.due("whole, worn", x.splice(0), NOT);
        Check.due("worn", x.rope(0, 4), 10);
        x.cut(0);
        Check.due("spliced", x.splice(0), 1);
        Check.due("without wear", x.rope(0, 4), 0);
        Check.due("whole again", x.rope(0, 6), 1);
        Check.due("as wet as it was", x.rope(0, 5), 1);
        Check.due("gone on", x.go(0, 0), 2);
    }

    private static void wetting() {
        RopePost x = Check.town("pole 0 0 3;pole 0 0 2;rope 0 1 10 400;rope 0 1 10 400;boy 0 90 5;");
        Check.due("no such", x.wet(2, true), U);
        Check.due("-1", x.wet(-1, true), U);
        Check.due("dry", x.wet(1, false), 0);
        Check.due("was dry", x.wet(1, true), 0);
        Check.due("was wet", x.wet(1, true), 1);
        Check.due("is wet", x.rope(1, 5), 1);
        Check.due("the other is dry", x.rope(0, 5), 0);
        Check.due("was wet, is dry", x.wet(1, false), 1);
        Check.due("is dry", x.rope(1, 5), 0);
        x.go(0, 0);
        Check.due("while one is on it", x.wet(0, true), 0);
        x.pass(2);
        Check.due("his minutes stay", x.boy(0, 0), 1);
        x.cut(0);
        Check.due("a cut one", x.wet(0, false), 1);
    }

    /** The draws told anew, in longs, for the storms below. */
    private static long seed;

    private static int draw(int n) {
        seed = (seed * 1103515245L + 12345L) % 2147483648L;
        return (int) (seed / 65536 % n);
    }

    private static void storming() {
        RopePost x = Check.town("pole 0 0 3;pole 0 0 2;rope 0 1 10 400;rope 0 1 10 400;rope 0 1 10 400;rope 0 1 10 400;");
        Check.due("storm(-1)", x.storm(-1), O);
        Check.due("storm(101)", x.storm(101), O);
        Check.due("no draw", x.seed(0), 0);
        int[] wear = new int[4];
        boolean[] broken = new boolean[4];
        int[] force = {100, 60, 0, 100, 100, 30, 99, 1, 100, 100};
        seed = 2147483647L;
        x.seed(2147483647);
        for (int q : force) {
            int due = 0;
            for (int r = 0; r < 4; r++) {
                if (!broken[r] && draw(100) < q) {
                    wear[r] += draw(40);
                    broken[r] = wear[r] >= 100;
                    due |= broken[r] ? 1 << r : 0;
                }
            }
            Check.due("storm(" + q + ")", x.storm(q), due);
            for (int r = 0; r < 4; r++) {
                Check.due("wet " + r, x.rope(r, 5), draw(2));
                Check.due("wear " + r, x.rope(r, 4), wear[r]);
                Check.due("whole " + r, x.rope(r, 6), broken[r] ? 0 : 1);
            }
        }
        Check.due("the seed behind all", x.seed(5), seed);
    }

    private static void stormBelow() {
        for (int first = 1; first < 40; first++) {
            RopePost x = Check.town("pole 0 0 3;pole 0 0 2;rope 0 1 10 400;");
            seed = first;
            int drawn = draw(100);
            int wear = draw(40);
            x.seed(first);
            x.storm(drawn);
            Check.due("not below " + drawn, x.rope(0, 4), 0);
            x.seed(first);
            x.storm(drawn + 1);
            Check.due("below " + (drawn + 1), x.rope(0, 4), wear);
        }
    }

    private static void stormPassesOver() {
        RopePost x = Check.town("pole 0 0 3;pole 0 0 2;rope 0 1 10 400;rope 0 1 10 400;rope 0 1 10 400;boy 0 9 1;");
        x.go(0, 1);
        x.cut(2);
        seed = 0;
        draw(100);
        int wear = draw(40);
        x.storm(100);
        Check.due("wear of the first alone", x.rope(0, 4), wear);
        Check.due("one is on it", x.rope(1, 4), 0);
        Check.due("it is cut", x.rope(2, 4), 0);
        for (int r = 0; r < 3; r++) {
            Check.due("wet, each of them " + r, x.rope(r, 5), draw(2));
        }
        Check.due("seed", x.seed(0), seed);
    }

    private static void ringing() {
        RopePost x = Check.town("pole 0 0 3;pole 0 0 3;rope 0 1 1 999;rope 0 1 1 999;boy 0 1 50;boy 0 1 50;");
        x.pass(7);
        x.go(0, 1);
        x.go(1, 1);
        x.go(1, 0);
        Check.due("two rings", x.told(8), 2);
        Check.due("minute", x.ring(0, 0), 7);
        Check.due("rope", x.ring(0, 1), 1);
        Check.due("second", x.ring(1, 1), 0);
        Check.due("not so many", x.ring(2, 0), -1);
        Check.due("-1", x.ring(-1, 1), -1);
        Check.due("what 2", x.ring(0, 2), O);
        Check.due("what -1", x.ring(0, -1), O);
        Check.due("what first", x.ring(99, 2), O);
        x.pass(1);
        for (int k = 2; k < 203; k++) {
            int r = k & 1;
            if (x.go(0, r) < 0) {
                x.splice(r);
                x.go(0, r);
            }
            x.pass(1);
            if (k > 197) {
                Check.due("rings", x.told(8), Math.min(200, k + 1));
            }
        }
        Check.due("the last kept", x.ring(199, 0), 205);
        Check.due("its rope", x.ring(199, 1), 1);
        Check.due("no more", x.ring(200, 0), -1);
    }
}
