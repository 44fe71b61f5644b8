/** The edges of promises 10 to 13: going, taking, laying down, minutes. Each method holds the words that it begins with. */
public final class EdgeMinutesTest {
    private static final int U = RopePost.UNKNOWN, O = RopePost.OUTSIDE, NOT = RopePost.NOT, NONE = RopePost.NONE;
    private static final int LEAST = Integer.MIN_VALUE, MOST = Integer.MAX_VALUE;
    private static final String TWO = "pole 0 0 5;pole 0 0 5;";

    public static void main(String[] args) {
        minutesUp();
        minutesByLevel();
        minutesByWet();
        minutesAtTheirMost();
        nobodyOnIt();
        itIsWhole();
        poundsItCarries();
        longOnShort();
        goesFromItsEnds();
        goUnknown();
        goNot();
        takeFewerThanTwo();
        takeWhereItLies();
        takeUnknown();
        takeNot();
        layAtAPole();
        layUnknown();
        layNot();
        passBounds();
        passIsSoManyMinutes();
        minuteIsOneMoreFirst();
        oneMinuteLess();
        poleBearsHim();
        poleAsItIsThen();
        waitsWithOneToGo();
        poleIsFreeAsSoonAsLeft();
        deliveredAtOnce();
        deliveredWhereItIsToGo();
        deliveredWhileWaiting();
        aliveUntilSixty();
        aliveAloneIsForNothing();
        Check.end("EdgeMinutesTest");
    }

    // ---- the minutes of a rope

    private static int going(int feet, int pace, boolean level, boolean wet) {
        RopePost x = Check.town(TWO + "rope 0 1 " + feet + " 999;boy 0 1 " + pace + ";load 0 1 0 0 level;load 0 1 0 0 plain;");
        x.wet(0, wet);
        x.take(0, level ? 0 : 1);
        int minutes = x.go(0, 0);
        Check.due("minutes to go", x.boy(0, 2), minutes);
        return minutes;
    }

    private static void minutesUp() {
        Check.sentence("A ROPE takes a BOY so many minutes: L / PACE, up");
        int[][] rows = {{1, 1, 1}, {1, 50, 1}, {49, 50, 1}, {50, 50, 1}, {51, 50, 2}, {98, 49, 2}, {99, 49, 3}, {99, 50, 2}, {99, 1, 99},
            {2, 1, 2}, {97, 33, 3}, {99, 33, 3}, {99, 32, 4}};
        for (int[] row : rows) {
            Check.due(row[0] + " feet at " + row[1], going(row[0], row[1], false, false), row[2]);
        }
    }

    private static void minutesByLevel() {
        Check.sentence("half as many more (cut, 1 at least), if he carries 'level' LOADS");
        int[][] rows = {{1, 2}, {2, 3}, {3, 4}, {4, 6}, {5, 7}, {98, 147}, {99, 148}};
        for (int[] row : rows) {
            Check.due("level, of " + row[0], going(row[0], 1, true, false), row[1]);
            Check.due("not level, of " + row[0], going(row[0], 1, false, false), row[0]);
        }
        RopePost x = Check.town(TWO + "rope 0 1 10 999;rope 0 1 10 999;boy 0 1 1;boy 0 1 1;load 0 1 0 0 level;load 0 1 0 0 level;");
        x.take(0, 0);
        x.take(0, 1);
        Check.due("another carries them", x.go(1, 0), 10);
        Check.due("two of them are no more than one", x.go(0, 1), 15);
        x = Check.town(TWO + "rope 0 1 10 999;boy 0 1 1;load 0 1 0 0 level;");
        x.take(0, 0);
        x.lay(0, 0);
        Check.due("laid down again", x.go(0, 0), 10);
    }

    private static void minutesByWet() {
        Check.sentence("twice as many, if it is WET");
        int[][] rows = {{1, 2, 4}, {2, 4, 6}, {3, 6, 8}, {5, 10, 14}, {99, 198, 296}};
        for (int[] row : rows) {
            Check.due("wet, of " + row[0], going(row[0], 1, false, true), row[1]);
            Check.due("level and wet, of " + row[0], going(row[0], 1, true, true), row[2]);
        }
        RopePost x = Check.town(TWO + "rope 0 1 10 999;rope 0 1 10 999;boy 0 1 1;boy 0 1 1;");
        x.wet(1, true);
        Check.due("another is wet", x.go(0, 0), 10);
        x.wet(0, true);
        x.wet(1, false);
        Check.due("dry again", x.go(1, 1), 10);
        Check.due("wet while he is on it: his minutes stay", x.boy(0, 2), 10);
        x.pass(10);
        Check.due("he is there", x.boy(0, 0), 1);
    }

    private static void minutesAtTheirMost() {
        Check.sentence("from then on he is on it, for so many minutes");
        RopePost x = Check.town(TWO + "rope 0 1 99 999;boy 0 1 1;load 0 1 0 5 level;");
        x.wet(0, true);
        x.take(0, 0);
        Check.due("the most minutes", x.go(0, 0), 296);
        x.pass(99);
        x.pass(99);
        x.pass(97);
        Check.due("the last but one", x.boy(0, 2), 1);
        Check.due("still on it", x.boy(0, 1), 0);
        Check.due("delivered with the last", x.pass(1), 1);
        Check.due("there", x.boy(0, 0), 1);
    }

    // ---- whether he may go

    private static void nobodyOnIt() {
        Check.sentence("He may go on it, if nobody is on it");
        String town = TWO + "rope 0 1 10 999;rope 1 0 10 999;boy 0 1 10;boy 0 1 5;boy 1 1 5;";
        Twins.refused("behind him", x -> start(x, town, y -> y.go(0, 0)), x -> x.go(1, 0), NOT);
        Twins.refused("towards him", x -> start(x, town, y -> y.go(0, 0)), x -> x.go(2, 0), NOT);
        RopePost x = Check.town(town);
        x.go(1, 0);
        Check.due("on the other rope", x.go(0, 1), 1);
        x.pass(1);
        Check.due("it is left", x.go(0, 1), 1);
        Check.due("still on it", x.go(2, 0), NOT);
        x.pass(1);
        Check.due("left in the last minute", x.go(2, 0), 2);
    }

    private interface Story {
        void tell(RopePost x);
    }

    private static void start(RopePost x, String town, Story more) {
        Check.feed(x, town);
        x.town();
        more.tell(x);
    }

    private static void itIsWhole() {
        Check.sentence("He may go on it, if it is whole");
        String town = TWO + "rope 0 1 10 999;boy 0 1 10;";
        Twins.refused("cut", x -> start(x, town, y -> y.cut(0)), x -> x.go(0, 0), NOT);
        RopePost x = Check.town(town);
        x.cut(0);
        x.splice(0);
        Check.due("spliced", x.go(0, 0), 1);
    }

    private static int goingWith(int carries, int pounds, int first, int second) {
        RopePost x = Check.town(TWO + "rope 0 1 50 " + carries + ";boy 0 " + pounds + " 50;load 0 1 " + first + " 0 plain;load 0 1 " + second
            + " 0 plain;load 0 1 200 0 plain;");
        x.take(0, 0);
        x.take(0, 1);
        return x.go(0, 0);
    }

    private static void poundsItCarries() {
        Check.sentence("his pounds and those of his LOADS together are no more than it CARRIES");
        int[][] rows = {{1, 1, 0, 0}, {200, 200, 0, 0}, {600, 200, 200, 200}, {999, 200, 200, 200}, {3, 1, 1, 1}, {400, 200, 200, 0}, {400, 200, 0, 200}};
        for (int[] row : rows) {
            Check.due("as much as it carries", goingWith(row[0], row[1], row[2], row[3]), 1);
            int sum = row[1] + row[2] + row[3];
            if (sum > 1) {
                Check.due("one pound more", goingWith(sum - 1, row[1], row[2], row[3]), NOT);
            }
        }
        String town = TWO + "rope 0 1 50 100;boy 0 99 50;load 0 1 2 0 plain;";
        Twins.refused("one pound more", x -> start(x, town, y -> y.take(0, 0)), x -> x.go(0, 0), NOT);
        RopePost x = Check.town(town);
        x.take(0, 0);
        x.lay(0, 0);
        Check.due("laid down", x.go(0, 0), 1);
    }

    private static void longOnShort() {
        Check.sentence("no 'long' LOAD of his is carried on one shorter than 20 feet");
        String[] kinds = {"plain", "alive", "level", "long"};
        for (int feet : new int[] {1, 19, 20, 21, 99}) {
            for (int kind = 0; kind < 4; kind++) {
                RopePost x = Check.town(TWO + "rope 0 1 " + feet + " 999;boy 0 1 50;load 0 1 0 0 plain;load 0 1 0 0 " + kinds[kind] + ";");
                x.take(0, 0);
                x.take(0, 1);
                boolean may = kind != 3 || feet >= 20;
                Check.due(kinds[kind] + " on " + feet + " feet", x.go(0, 0) > 0 ? 1 : 0, may ? 1 : 0);
            }
        }
        String town = TWO + "rope 0 1 19 999;boy 0 1 50;boy 0 1 50;load 0 1 0 0 long;";
        Twins.refused("long on 19 feet", x -> start(x, town, y -> y.take(0, 0)), x -> x.go(0, 0), NOT);
        RopePost x = Check.town(town);
        x.take(0, 0);
        Check.due("another carries it", x.go(1, 0), 1);
        x.pass(1);
        x.lay(0, 0);
        Check.due("laid down", x.go(0, 0), 1);
    }

    private static void goesFromItsEnds() {
        Check.sentence("a BOY at a POLE goes on a ROPE that ends there");
        String town = TWO + "pole 0 0 5;rope 0 1 10 999;rope 1 2 10 999;boy 0 1 10;boy 2 1 10;";
        Twins.refused("it ends elsewhere", x -> start(x, town, y -> y.fault()), x -> x.go(0, 1), NOT);
        Twins.refused("it ends elsewhere, of the other", x -> start(x, town, y -> y.fault()), x -> x.go(1, 0), NOT);
        Twins.refused("he is on a rope", x -> start(x, town, y -> y.go(0, 0)), x -> x.go(0, 1), NOT);
        Twins.refused("he is on this rope", x -> start(x, town, y -> y.go(0, 0)), x -> x.go(0, 0), NOT);
        RopePost x = Check.town(town);
        Check.due("from its first pole", x.go(0, 0), 1);
        Check.due("from its second pole", x.go(1, 1), 1);
        x.pass(1);
        Check.due("at the other end", x.boy(0, 0), 1);
        Check.due("at the other end, of the other", x.boy(1, 0), 1);
        Check.due("and on", x.go(0, 1), 1);
        Check.due("and on, of the other", x.go(1, 0), 1);
        x.pass(1);
        Check.due("at the far end", x.boy(0, 0), 2);
        Check.due("at the far end, of the other", x.boy(1, 0), 0);
    }

    private static void goUnknown() {
        Check.sentence("go: UNKNOWN");
        for (int none : new int[] {LEAST, -1, MOST}) {
            Twins.refusedToday("go(" + none + ", 1)", x -> x.go(none, 1), U);
            Twins.refusedToday("go(0, " + none + ")", x -> x.go(0, none), U);
            Twins.refusedToday("go(3, " + none + "), unknown ahead of not", x -> x.go(3, none), U);
        }
        Twins.refusedToday("go(4, 1)", x -> x.go(4, 1), U);
        Twins.refusedToday("go(0, 5)", x -> x.go(0, 5), U);
        Twins.refusedToday("go(4, 0), unknown ahead of not", x -> x.go(4, 0), U);
        Twins.refusedToday("go(2, 5), unknown ahead of not", x -> x.go(2, 5), U);
        Twins.refusedToday("go(4, 5)", x -> x.go(4, 5), U);
    }

    private static void goNot() {
        Check.sentence("go: NOT: not as told");
        Twins.refusedToday("somebody waits on it", x -> x.go(0, 0), NOT);
        Twins.refusedToday("it does not end there", x -> x.go(0, 3), NOT);
        Twins.refusedToday("it is cut", x -> x.go(1, 2), NOT);
        Twins.refusedToday("he waits on a rope", x -> x.go(2, 1), NOT);
        Twins.refusedToday("he is on a rope", x -> x.go(3, 3), NOT);
        RopePost x = new RopePost();
        Twins.day(x);
        Check.due("no ring by a refused one", x.told(8), 4);
        Check.due("but this one may go", x.go(0, 1), 6);
        Check.due("a ring more", x.told(8), 5);
    }

    // ---- take and lay

    private static final String FOUR = TWO + "rope 0 1 20 999;boy 0 1 10;boy 0 1 10;boy 1 1 10;"
        + "load 0 1 0 1 plain;load 0 1 0 2 alive;load 0 1 0 4 level;load 1 0 0 8 long;";

    private static void takeFewerThanTwo() {
        Check.sentence("TO TAKE a LOAD: the BOY carries fewer than 2: how many he carries");
        RopePost x = Check.town(FOUR);
        Check.due("the first", x.take(0, 1), 1);
        Check.due("the second", x.take(0, 2), 2);
        Check.due("the third", x.take(0, 0), NOT);
        Check.due("laid down", x.lay(0, 1), 1);
        Check.due("another second", x.take(0, 0), 2);
        Check.due("what he carries", x.boy(0, 5), 5);
        Twins.refused("a third", y -> start(y, FOUR, z -> takeBoth(z)), y -> y.take(0, 2), NOT);
    }

    private static void takeBoth(RopePost x) {
        x.take(0, 0);
        x.take(0, 1);
    }

    private static void takeWhereItLies() {
        Check.sentence("TO TAKE a LOAD: the BOY is where it lies");
        Twins.refused("it lies elsewhere", y -> start(y, FOUR, z -> z.fault()), y -> y.take(0, 3), NOT);
        Twins.refused("he has it", y -> start(y, FOUR, z -> z.take(0, 0)), y -> y.take(0, 0), NOT);
        Twins.refused("another has it", y -> start(y, FOUR, z -> z.take(0, 0)), y -> y.take(1, 0), NOT);
        Twins.refused("he is on a rope from where it lies", y -> start(y, FOUR, z -> z.go(0, 0)), y -> y.take(0, 0), NOT);
        Twins.refused("he is on a rope to where it lies", y -> start(y, FOUR, z -> z.go(0, 0)), y -> y.take(0, 3), NOT);
        RopePost x = Check.town(FOUR);
        x.take(0, 0);
        x.go(0, 0);
        x.pass(2);
        Check.due("delivered, of him", x.take(0, 0), NOT);
        Check.due("delivered, of another there", x.take(2, 0), NOT);
        Check.due("where he came to", x.take(0, 3), 1);
        Check.due("no more where he was", x.take(0, 1), NOT);
    }

    private static void takeUnknown() {
        Check.sentence("take: UNKNOWN");
        for (int none : new int[] {LEAST, -1, 4, MOST}) {
            Twins.refusedToday("take(" + none + ", 3)", x -> x.take(none, 3), U);
            Twins.refusedToday("take(0, " + none + ")", x -> x.take(0, none), U);
            Twins.refusedToday("take(2, " + none + "), unknown ahead of not", x -> x.take(2, none), U);
            Twins.refusedToday("take(" + none + ", 0), unknown ahead of not", x -> x.take(none, 0), U);
        }
    }

    private static void takeNot() {
        Check.sentence("take: NOT: not as told");
        Twins.refusedToday("it lies elsewhere", x -> x.take(0, 3), NOT);
        Twins.refusedToday("it is delivered", x -> x.take(0, 0), NOT);
        Twins.refusedToday("another carries it", x -> x.take(1, 1), NOT);
        Twins.refusedToday("he carries it on a rope", x -> x.take(3, 2), NOT);
        Twins.refusedToday("he is on his way to it", x -> x.take(3, 3), NOT);
        Twins.refusedToday("he waits", x -> x.take(2, 3), NOT);
    }

    private static void layAtAPole() {
        Check.sentence("TO LAY it down: where he is at a POLE: how many he carries");
        RopePost x = Check.town(TWO + "pole 0 0 5;rope 0 1 20 999;boy 0 1 10;load 0 2 0 1 plain;load 0 2 0 2 plain;");
        x.take(0, 0);
        x.take(0, 1);
        Check.due("one is left", x.lay(0, 0), 1);
        Check.due("none is left", x.lay(0, 1), 0);
        x.take(0, 0);
        x.take(0, 1);
        x.go(0, 0);
        x.pass(1);
        Check.due("on a rope", x.lay(0, 0), NOT);
        x.pass(1);
        Check.due("where he is", x.lay(0, 1), 1);
        Check.due("it lies there", x.load(1, 0), 1);
        Check.due("nobody carries it", x.load(1, 5), NONE);
        Check.due("of the pole's", x.pole(1, 4), 2);
        Check.due("he carries the other", x.boy(0, 5), 1);
        Check.due("not delivered", x.told(7), 0);
    }

    private static void layUnknown() {
        Check.sentence("lay: UNKNOWN");
        for (int none : new int[] {LEAST, -1, 4, MOST}) {
            Twins.refusedToday("lay(" + none + ", 1)", x -> x.lay(none, 1), U);
            Twins.refusedToday("lay(0, " + none + ")", x -> x.lay(0, none), U);
            Twins.refusedToday("lay(3, " + none + "), unknown ahead of not", x -> x.lay(3, none), U);
            Twins.refusedToday("lay(" + none + ", 2), unknown ahead of not", x -> x.lay(none, 2), U);
            // A load that nobody carries is not carried by a boy of number NONE.
            Twins.refusedToday("lay(" + none + ", 3), unknown ahead of not", x -> x.lay(none, 3), U);
        }
    }

    private static void layNot() {
        Check.sentence("lay: NOT: he does not carry it, is on a ROPE");
        Twins.refusedToday("it lies elsewhere", x -> x.lay(0, 3), NOT);
        Twins.refusedToday("it is delivered where he is", x -> x.lay(0, 0), NOT);
        Twins.refusedToday("another carries it", x -> x.lay(1, 1), NOT);
        Twins.refusedToday("he is on a rope", x -> x.lay(3, 2), NOT);
        Twins.refused("it lies where he is", y -> start(y, FOUR, z -> z.fault()), y -> y.lay(0, 0), NOT);
        Twins.refused("he waits", EdgeMinutesTest::waitWithLoad, y -> y.lay(0, 0), NOT);
    }

    // ---- minutes

    private static void passBounds() {
        Check.sentence("n MINUTES (1 .. 99). OUTSIDE");
        for (int n : new int[] {LEAST, -1, 0, 100, 101, MOST}) {
            Twins.refusedToday("pass(" + n + ")", x -> x.pass(n), O);
        }
        RopePost x = Check.town(TWO);
        Check.due("pass(1)", x.pass(1), 0);
        Check.due("minute", x.told(5), 1);
        Check.due("pass(99)", x.pass(99), 0);
        Check.due("minute", x.told(5), 100);
    }

    private static void passIsSoManyMinutes() {
        Check.sentence("n MINUTES: LOADS that are DELIVERED (a SET)");
        for (int n = 1; n <= 99; n += 7) {
            RopePost x = new RopePost(), twin = new RopePost();
            Twins.day(x);
            Twins.day(twin);
            int last = 0;
            for (int k = 0; k < n; k++) {
                last = twin.pass(1);
            }
            Check.due("pass(" + n + ")", x.pass(n), last);
            Twins.same("pass(" + n + ") and so many of 1,", Twins.everything(x), Twins.everything(twin));
        }
        RopePost x = new RopePost();
        Twins.day(x);
        Check.due("of earlier ones too", x.pass(1), 1);
    }

    private static void minuteIsOneMoreFirst() {
        Check.sentence("THE MINUTE is 0 at first; THE MINUTE is one more first");
        RopePost x = Check.town(FOUR);
        Check.due("at first", x.told(5), 0);
        x.go(0, 0);
        Check.due("going takes none", x.told(5), 0);
        Check.due("ring at 0", x.ring(0, 0), 0);
        x.pass(2);
        Check.due("two passed", x.told(5), 2);
        x.go(0, 0);
        Check.due("ring at 2", x.ring(1, 0), 2);
    }

    private static void oneMinuteLess() {
        Check.sentence("each BOY on a ROPE, in order, has one minute less to go; with none he comes to its other end");
        RopePost x = Check.town(TWO + "rope 0 1 30 999;rope 0 1 20 999;boy 0 1 10;boy 0 1 10;boy 0 1 10;");
        x.go(0, 0);
        x.go(2, 1);
        int[][] left = {{3, 0, 2}, {2, 0, 1}, {1, 0, 0}, {0, 0, 0}, {0, 0, 0}};
        int[][] pole = {{NONE, 0, NONE}, {NONE, 0, NONE}, {NONE, 0, 1}, {1, 0, 1}, {1, 0, 1}};
        for (int minute = 0; minute < 5; minute++) {
            for (int b = 0; b < 3; b++) {
                Check.due("to go, boy " + b + " at " + minute, x.boy(b, 2), left[minute][b]);
                Check.due("pole, boy " + b + " at " + minute, x.boy(b, 0), pole[minute][b]);
            }
            x.pass(1);
        }
    }

    /** Boys there, and one more who comes: he waits where the pole bears as many as are there. */
    private static void poleBearsHim() {
        Check.sentence("he comes to its other end, if that POLE BEARS him, else he waits");
        for (int bears = 1; bears <= 5; bears++) {
            for (int there = 0; there <= 3 && there <= bears; there++) {
                StringBuilder town = new StringBuilder("pole 0 0 5;pole 0 0 " + bears + ";rope 0 1 10 999;");
                town.append("boy 1 1 10;".repeat(there)).append("boy 0 1 10;");
                RopePost x = Check.town(town.toString());
                x.go(there, 0);
                x.pass(1);
                boolean comes = there < bears;
                Check.due("pole, of " + bears + " with " + there, x.boy(there, 0), comes ? 1 : NONE);
                Check.due("rope, of " + bears + " with " + there, x.boy(there, 1), comes ? NONE : 0);
                Check.due("to go, of " + bears + " with " + there, x.boy(there, 2), comes ? 0 : 1);
            }
        }
    }

    private static void poleAsItIsThen() {
        Check.sentence("if that POLE BEARS him (as it is then), each BOY in order");
        RopePost x = Check.town("pole 0 0 5;pole 0 0 2;rope 0 1 10 999;rope 0 1 10 999;rope 0 1 10 999;rope 0 1 10 999;"
            + "boy 0 1 10;boy 0 1 10;boy 0 1 10;boy 0 1 10;");
        for (int b = 3; b >= 0; b--) {
            x.go(b, b);
        }
        x.pass(1);
        Check.due("the first two come", x.pole(1, 3), 3);
        x.go(1, 1);
        x.pass(1);
        Check.due("one has left: the next comes", x.pole(1, 3), 5);
        Check.due("the last still waits", x.boy(3, 2), 1);
        x.go(0, 0);
        x.go(2, 2);
        x.pass(1);
        Check.due("the last comes", x.pole(1, 3), 8);
        x = Check.town("pole 0 0 1;pole 0 0 1;rope 0 1 10 999;rope 0 1 10 999;boy 0 1 10;boy 1 1 10;");
        x.go(0, 0);
        x.go(1, 1);
        x.pass(1);
        Check.due("they change places", x.boy(0, 0), 1);
        Check.due("both of them", x.boy(1, 0), 0);
    }

    private static void waitWithLoad(RopePost x) {
        Check.feed(x, "pole 0 0 5;pole 0 0 1;rope 0 1 20 999;rope 1 0 99 999;boy 0 1 10;boy 1 1 1;load 0 1 9 7 alive;load 0 1 0 5 plain;");
        x.town();
        x.take(0, 0);
        x.take(0, 1);
        x.go(0, 0);
        x.pass(2);
    }

    private static void waitsWithOneToGo() {
        Check.sentence("else he waits (with 1 still to go)");
        RopePost x = new RopePost();
        waitWithLoad(x);
        for (int turn = 0; turn < 3; turn++) {
            Check.due("one to go", x.boy(0, 2), 1);
            Check.due("on the rope", x.boy(0, 1), 0);
            Check.due("at no pole", x.boy(0, 0), NONE);
            Check.due("of the rope's", x.rope(0, 7), 0);
            Check.due("it does not wear", x.rope(0, 4), 0);
            Check.due("nothing is delivered", x.pass(turn == 0 ? 1 : 9), 0);
        }
    }

    private static void poleIsFreeAsSoonAsLeft() {
        Check.sentence("if that POLE BEARS him (as it is then)");
        RopePost x = new RopePost();
        waitWithLoad(x);
        x.go(1, 1);
        Check.due("he comes with the next minute", x.pass(1), 3);
        Check.due("he is there", x.boy(0, 0), 1);
        Check.due("at minute 3", x.told(5), 3);
        Check.due("the rope wears once", x.rope(0, 4), 2);
    }

    private static void deliveredAtOnce() {
        Check.sentence("What he brings to where it is to go is DELIVERED at once (WORTH is had)");
        RopePost x = Check.town(TWO + "rope 0 1 20 999;boy 0 1 10;load 0 1 0 999 plain;load 0 1 200 0 long;");
        x.take(0, 0);
        x.take(0, 1);
        x.go(0, 0);
        Check.due("not on the rope", x.pass(1), 0);
        Check.due("both at once", x.pass(1), 3);
        Check.due("worth", x.told(6), 999);
        Check.due("he carries nothing", x.boy(0, 5), 0);
        Check.due("hands are free", x.take(0, 0), NOT);
        x.go(0, 0);
        x.pass(2);
        Check.due("not a second time", x.told(6), 999);
    }

    private static void deliveredWhereItIsToGo() {
        Check.sentence("What he brings to where it is to go");
        RopePost x = Check.town(TWO + "pole 0 0 5;rope 0 1 20 999;rope 1 2 20 999;boy 0 1 20;boy 1 1 20;load 0 1 0 3 plain;load 0 2 0 5 plain;");
        x.take(0, 0);
        x.take(0, 1);
        x.go(0, 0);
        Check.due("the one alone", x.pass(1), 1);
        Check.due("he carries the other", x.boy(0, 5), 2);
        x.lay(0, 1);
        x.take(1, 1);
        x.go(1, 1);
        Check.due("handed on", x.pass(1), 3);
        Check.due("worth of both", x.told(6), 8);
    }

    private static void deliveredWhileWaiting() {
        Check.sentence("an 'alive' one only if THE MINUTE is 60 at most, else for nothing");
        for (int minute = 59; minute <= 62; minute++) {
            RopePost x = new RopePost();
            waitWithLoad(x);
            x.pass(minute - 3);
            x.go(1, 1);
            Check.due("he comes when he can", x.pass(1), 3);
            Check.due("minute", x.told(5), minute);
            Check.due("worth at " + minute, x.told(6), minute <= 60 ? 12 : 5);
        }
    }

    private static void aliveUntilSixty() {
        Check.sentence("an 'alive' one only if THE MINUTE is 60 at most, else for nothing");
        for (int minute : new int[] {1, 59, 60, 61, 62, 99}) {
            RopePost x = Check.town(TWO + "rope 0 1 10 999;boy 0 1 10;load 0 1 0 7 alive;");
            x.take(0, 0);
            if (minute > 1) {
                x.pass(minute - 1);
            }
            x.go(0, 0);
            Check.due("delivered at " + minute, x.pass(1), 1);
            Check.due("minute", x.told(5), minute);
            Check.due("worth at " + minute, x.told(6), minute <= 60 ? 7 : 0);
            Check.due("delivered all the same", x.load(0, 6), 1);
        }
    }

    private static void aliveAloneIsForNothing() {
        Check.sentence("(WORTH is had; an 'alive' one only if THE MINUTE is 60 at most");
        for (String kind : new String[] {"plain", "level", "long"}) {
            RopePost x = Check.town(TWO + "rope 0 1 20 999;boy 0 1 50;load 0 1 0 7 " + kind + ";");
            x.take(0, 0);
            x.pass(99);
            x.go(0, 0);
            x.pass(9);
            Check.due("worth of a " + kind + " one", x.told(6), 7);
        }
    }
}
