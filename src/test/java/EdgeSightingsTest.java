/** The edges of promises 24 to 29: odds, pays, see, forget, who, judge. Each method holds the words that it begins with. */
public final class EdgeSightingsTest {
    private static final int U = RopePost.UNKNOWN, O = RopePost.OUTSIDE, FULL = RopePost.FULL, NONE = RopePost.NONE;
    private static final int LEAST = Integer.MIN_VALUE, MOST = Integer.MAX_VALUE;
    /** Boy 0 takes 2 minutes a rope, boy 1 takes 1, boy 2 is carried by none. */
    private static final String LINE = "pole 0 0 5;pole 0 10 5;pole 0 20 5;pole 99 0 5;rope 0 1 10 50;rope 1 2 10 50;"
        + "boy 0 9 5;boy 2 9 10;boy 0 51 50;load 0 2 1 100 plain;load 0 2 1 7 plain;load 0 2 1 999 plain;load 0 2 1 0 plain;";

    public static void main(String[] args) {
        oddsUnknown();
        oddsOutside();
        oddsByFeetAndWind();
        paysUnknown();
        paysOutside();
        paysLess();
        paysCut();
        paysNoFar();
        paysAtItsMost();
        seeUnknown();
        seeOutside();
        seeFull();
        seeOrder();
        forgetting();
        whoUnknown();
        whoOutside();
        whoFromHisPole();
        whoFromTheLastAhead();
        whoAtASighting();
        whoToTheFirstBehind();
        whoOfEachBoy();
        whoByRopesAsTheyAreNow();
        whoCarriedAlone();
        whoAtItsMost();
        judgeNothing();
        judgeFirstOfABoy();
        judgeMinuteIsLess();
        judgeFarIsMore();
        judgeAsTold();
        judgeTheFirst();
        judgeFull();
        Check.end("EdgeSightingsTest");
    }

    // ---- throws

    private static void oddsUnknown() {
        Check.sentence("odds: UNKNOWN (one twice)");
        for (int none : new int[] {LEAST, -1, 4, MOST}) {
            Twins.refusedToday("odds(" + none + ", 0, 0)", x -> x.odds(none, 0, 0), U);
            Twins.refusedToday("odds(0, " + none + ", 0)", x -> x.odds(0, none, 0), U);
            Twins.refusedToday("odds(" + none + ", 0, 100), unknown ahead of outside", x -> x.odds(none, 0, 100), U);
            Twins.refusedToday("odds(0, " + none + ", -1), unknown ahead of outside", x -> x.odds(0, none, -1), U);
        }
        for (int p = 0; p < 4; p++) {
            int twice = p;
            Twins.refusedToday("odds(" + p + ", " + p + ", 0)", x -> x.odds(twice, twice, 0), U);
            Twins.refusedToday("odds(" + p + ", " + p + ", 100), unknown ahead of outside", x -> x.odds(twice, twice, 100), U);
        }
    }

    private static void oddsOutside() {
        Check.sentence("in wind n (0 .. 99). OUTSIDE");
        for (int wind : new int[] {LEAST, -1, 100, 101, MOST}) {
            Twins.refusedToday("odds(0, 1, " + wind + ")", x -> x.odds(0, 1, wind), O);
        }
        RopePost x = Check.town("pole 0 0 1;pole 0 0 1;");
        Check.due("wind 0", x.odds(0, 1, 0), 100);
        Check.due("wind 99", x.odds(0, 1, 99), 1);
    }

    private static void oddsByFeetAndWind() {
        Check.sentence("feet d apart (|X| and |Y| together): odds of 100: 100 less d, less n (0 at least)");
        int[][] rows = {{0, 0, 0, 0, 100}, {0, 0, 1, 0, 99}, {0, 0, 0, 1, 99}, {1, 0, 0, 0, 99}, {0, 1, 0, 0, 99}, {0, 0, 50, 49, 1}, {50, 0, 0, 49, 1},
            {0, 0, 50, 50, 0}, {0, 0, 51, 50, -1}, {0, 0, 99, 99, -98}, {99, 99, 0, 0, -98}, {30, 70, 70, 30, 20}};
        for (int[] row : rows) {
            RopePost x = Check.town("pole " + row[0] + " " + row[1] + " 1;pole " + row[2] + " " + row[3] + " 1;");
            for (int wind : new int[] {0, 1, 2, 19, 20, 21, 98, 99}) {
                Check.due("odds in wind " + wind, x.odds(0, 1, wind), Math.max(0, row[4] - wind));
                Check.due("odds back in wind " + wind, x.odds(1, 0, wind), Math.max(0, row[4] - wind));
            }
        }
    }

    private static void paysUnknown() {
        Check.sentence("pays: UNKNOWN (one POLE twice)");
        for (int none : new int[] {LEAST, -1, 4, MOST}) {
            Twins.refusedToday("pays of load " + none, x -> x.pays(none, 0, 0, 1, 0, 0), U);
            Twins.refusedToday("pays of boy " + none, x -> x.pays(0, none, 0, 1, 0, 0), U);
            Twins.refusedToday("pays from pole " + none, x -> x.pays(0, 0, none, 1, 0, 0), U);
            Twins.refusedToday("pays to pole " + none, x -> x.pays(0, 0, 1, none, 0, 0), U);
            Twins.refusedToday("load " + none + ", unknown ahead of outside", x -> x.pays(none, 0, 0, 1, 100, 0), U);
            Twins.refusedToday("boy " + none + ", unknown ahead of outside", x -> x.pays(0, none, 0, 1, 0, 100), U);
            Twins.refusedToday("from pole " + none + ", unknown ahead of outside", x -> x.pays(0, 0, none, 1, -1, 0), U);
            Twins.refusedToday("to pole " + none + ", unknown ahead of outside", x -> x.pays(0, 0, 1, none, 0, -1), U);
        }
        for (int p = 0; p < 4; p++) {
            int twice = p;
            Twins.refusedToday("pays from " + p + " to " + p, x -> x.pays(0, 0, twice, twice, 0, 0), U);
            Twins.refusedToday("from " + p + " to " + p + ", unknown ahead of outside", x -> x.pays(0, 0, twice, twice, 100, 100), U);
        }
    }

    private static void paysOutside() {
        Check.sentence("in wind n (0 .. 99), each minute at c (0 .. 99). OUTSIDE");
        for (int number : new int[] {LEAST, -1, 100, 101, MOST}) {
            Twins.refusedToday("wind " + number, x -> x.pays(0, 0, 0, 1, number, 0), O);
            Twins.refusedToday("c " + number, x -> x.pays(0, 0, 0, 1, 0, number), O);
            Twins.refusedToday("both " + number, x -> x.pays(0, 0, 0, 1, number, number), O);
        }
        RopePost x = Check.town(LINE);
        Check.due("wind 99, c 99: all of 100 is lost, 396 are paid", x.pays(0, 0, 0, 2, 99, 99), 1);
        Check.due("wind 0, c 0", x.pays(0, 0, 0, 2, 0, 0), 0);
    }

    private static void paysLess() {
        Check.sentence("what is lost is less than FAR times c; 1, 0");
        RopePost x = Check.town(LINE);
        // 20 feet, 4 minutes: of 100 are lost 20 and the wind.
        Check.due("20 to 16", x.pays(0, 0, 0, 2, 0, 4), 0);
        Check.due("20 to 20", x.pays(0, 0, 0, 2, 0, 5), 0);
        Check.due("20 to 24", x.pays(0, 0, 0, 2, 0, 6), 1);
        Check.due("19 to 20 cannot be: 21 to 20", x.pays(0, 0, 0, 2, 1, 5), 0);
        Check.due("23 to 24", x.pays(0, 0, 0, 2, 3, 6), 1);
        Check.due("24 to 24", x.pays(0, 0, 0, 2, 4, 6), 0);
        Check.due("back, 23 to 24", x.pays(0, 0, 2, 0, 3, 6), 1);
        Check.due("nothing to lose, nothing to pay", x.pays(3, 0, 0, 2, 0, 0), 0);
        Check.due("nothing to lose", x.pays(3, 0, 0, 2, 99, 1), 1);
        Check.due("a quicker boy: 23 to 12", x.pays(0, 1, 0, 2, 3, 6), 0);
        x.wet(0, true);
        Check.due("wet: 24 to 36", x.pays(0, 0, 0, 2, 4, 6), 1);
    }

    private static void paysCut() {
        Check.sentence("what is lost, WORTH times (100 less odds) / 100 (cut)");
        RopePost x = Check.town(LINE);
        // 10 feet, 2 minutes of boy 0, 1 of boy 1. Of 7 in wind n: 7 * (10 + n) / 100.
        Check.due("70 / 100 is 0, to 1", x.pays(1, 1, 0, 1, 0, 1), 1);
        Check.due("98 / 100 is 0, to 1", x.pays(1, 1, 0, 1, 4, 1), 1);
        Check.due("105 / 100 is 1, to 1", x.pays(1, 1, 0, 1, 5, 1), 0);
        Check.due("105 / 100 is 1, to 2", x.pays(1, 0, 0, 1, 5, 1), 1);
        Check.due("196 / 100 is 1, to 2", x.pays(1, 0, 0, 1, 18, 1), 1);
        Check.due("203 / 100 is 2, to 2", x.pays(1, 0, 0, 1, 19, 1), 0);
        // Of 999: 9990 / 100 is 99.
        Check.due("99 to 99", x.pays(2, 1, 0, 1, 0, 99), 0);
        Check.due("99 to 100", x.pays(2, 0, 0, 1, 0, 50), 1);
        Check.due("99 to 98", x.pays(2, 0, 0, 1, 0, 49), 0);
    }

    private static void paysNoFar() {
        Check.sentence("(no FAR: 1, if odds are above 0)");
        RopePost x = Check.town(LINE);
        Check.due("no way, odds 1", x.pays(2, 0, 0, 3, 0, 0), 1);
        Check.due("no way, odds 0", x.pays(2, 0, 0, 3, 1, 99), 0);
        Check.due("no way, odds 0 by far", x.pays(3, 0, 2, 3, 99, 99), 0);
        Check.due("they do not carry him, odds 1", x.pays(2, 2, 0, 1, 89, 0), 1);
        Check.due("they do not carry him, odds 0", x.pays(2, 2, 0, 1, 90, 0), 0);
        Check.due("a way, odds 0, nothing to lose", x.pays(3, 0, 0, 1, 90, 1), 1);
        x.cut(1);
        Check.due("cut, odds 1", x.pays(2, 0, 0, 2, 79, 99), 1);
        Check.due("cut, odds 0", x.pays(2, 0, 0, 2, 80, 99), 0);
    }

    private static void paysAtItsMost() {
        Check.sentence("WORTH times (100 less odds) / 100, FAR times c, at their most");
        StringBuilder town = new StringBuilder();
        for (int p = 0; p < 8; p++) {
            town.append("pole ").append(p == 7 ? 99 : 0).append(p == 7 ? " 99 1;" : " 0 1;");
        }
        for (int p = 0; p < 7; p++) {
            town.append("rope ").append(p).append(' ').append(p + 1).append(" 99 999;");
        }
        RopePost x = Check.town(town + "boy 0 1 1;load 0 7 0 999 plain;");
        Check.due("999 to 693", x.pays(0, 0, 0, 7, 99, 1), 0);
        Check.due("999 to 1386", x.pays(0, 0, 0, 7, 99, 2), 1);
        Check.due("999 to 68607", x.pays(0, 0, 0, 7, 99, 99), 1);
        for (int r = 0; r < 7; r++) {
            x.wet(r, true);
        }
        Check.due("wet, 999 to 1386", x.pays(0, 0, 0, 7, 0, 1), 1);
    }

    // ---- sightings

    private static void seeUnknown() {
        Check.sentence("see: UNKNOWN");
        for (int none : new int[] {LEAST, -1, 4, MOST}) {
            Twins.refusedToday("see(" + none + ", 0, 0)", x -> x.see(none, 0, 0), U);
            Twins.refusedToday("see(0, " + none + ", 0)", x -> x.see(0, none, 0), U);
        }
    }

    private static void seeOutside() {
        Check.sentence("see: OUTSIDE (MINUTE 0 .. 9999)");
        for (int minute : new int[] {LEAST, -2, -1, 10000, 10001, MOST}) {
            Twins.refusedToday("see(0, 0, " + minute + ")", x -> x.see(0, 0, minute), O);
        }
        RopePost x = Check.town(LINE);
        Check.due("minute 0", x.see(0, 0, 0), 1);
        Check.due("minute 9999", x.see(0, 0, 9999), 2);
        Check.due("both are", x.told(9), 2);
        Check.due("whatever THE MINUTE is", x.told(5), 0);
    }

    private static void seeTwenty(RopePost x) {
        Check.feed(x, LINE);
        x.town();
        for (int k = 0; k < 20; k++) {
            x.see(k % 3, k % 4, 100 + k);
        }
        x.keep(0);
    }

    private static void seeFull() {
        Check.sentence("see: FULL (20)");
        RopePost x = Check.town(LINE);
        for (int k = 1; k <= 20; k++) {
            Check.due("sighting " + k, x.see(2, 3, k), k);
        }
        Check.due("a 21st", x.see(0, 0, 0), FULL);
        Check.due("still 20", x.told(9), 20);
        Twins.refused("a 21st", EdgeSightingsTest::seeTwenty, y -> y.see(0, 0, 5), FULL);
        x.forget();
        Check.due("room again", x.see(0, 0, 0), 1);
    }

    private static void seeOrder() {
        Check.sentence("REFUSALS, of several the first in this order: UNKNOWN, OUTSIDE, FULL");
        Twins.refused("all three", EdgeSightingsTest::seeTwenty, x -> x.see(3, 0, 10000), U);
        Twins.refused("all three, by the pole", EdgeSightingsTest::seeTwenty, x -> x.see(0, 4, -1), U);
        Twins.refused("unknown, full", EdgeSightingsTest::seeTwenty, x -> x.see(0, -1, 0), U);
        Twins.refused("outside, full", EdgeSightingsTest::seeTwenty, x -> x.see(0, 0, 10000), O);
        Twins.refused("outside below, full", EdgeSightingsTest::seeTwenty, x -> x.see(0, 0, -1), O);
        Twins.refusedToday("unknown, outside", x -> x.see(4, 0, -1), U);
        Twins.refusedToday("unknown, outside, by the pole", x -> x.see(0, 4, 10000), U);
    }

    private static void forgetting() {
        Check.sentence("No sightings: how many there were");
        RopePost x = Check.town(LINE);
        Check.due("none", x.forget(), 0);
        x.see(0, 1, 0);
        Check.due("judged", x.judge(), 0);
        Check.due("one", x.forget(), 1);
        Check.due("none is left", x.told(9), 0);
        Check.due("nothing to judge", x.judge(), NONE);
        Check.due("told at his pole again", x.who(0, 0), 5);
        Check.due("none again", x.forget(), 0);
        RopePost full = new RopePost();
        seeTwenty(full);
        Check.due("twenty", full.forget(), 20);
        Check.due("none of twenty", full.told(9), 0);
        full.goBack(0);
        Check.due("an image has none", full.told(9), 0);
    }

    // ---- who

    private static void whoUnknown() {
        Check.sentence("who: UNKNOWN");
        for (int none : new int[] {LEAST, -1, 4, MOST}) {
            Twins.refusedToday("who(" + none + ", 0)", x -> x.who(none, 0), U);
            Twins.refusedToday("who(" + none + ", 10000), unknown ahead of outside", x -> x.who(none, 10000), U);
            Twins.refusedToday("who(" + none + ", -1), unknown ahead of outside", x -> x.who(none, -1), U);
        }
    }

    private static void whoOutside() {
        Check.sentence("who: OUTSIDE (MINUTE 0 .. 9999)");
        for (int minute : new int[] {LEAST, -1, 10000, 10001, MOST}) {
            Twins.refusedToday("who(0, " + minute + ")", x -> x.who(0, minute), O);
        }
        RopePost x = Check.town(LINE);
        Check.due("at 0", x.who(0, 0), 5);
        Check.due("at 9999", x.who(0, 9999), 7);
        Check.due("nobody", Check.town("pole 0 0 1;").who(0, 0), 0);
    }

    private static void whoFromHisPole() {
        Check.sentence("none: he was told at his POLE at 0");
        RopePost x = Check.town(LINE);
        int[][] rows = {{1, 0, 0}, {1, 1, 2}, {1, 2, 3}, {2, 3, 2}, {2, 4, 3}, {0, 0, 5}, {0, 1, 5}, {0, 2, 7}, {3, 9999, 0}};
        for (int[] row : rows) {
            Check.due("who(" + row[0] + ", " + row[1] + ")", x.who(row[0], row[1]), row[2]);
        }
        x.go(0, 0);
        x.pass(9);
        x.keep(0);
        for (int[] row : rows) {
            Check.due("wherever he is now, who(" + row[0] + ", " + row[1] + ")", x.who(row[0], row[1]), row[2]);
        }
    }

    private static void whoFromTheLastAhead() {
        Check.sentence("from the last sighting of him ahead of that (or at it");
        RopePost x = Check.town(LINE);
        x.see(0, 0, 20);
        x.see(0, 2, 10);
        // From pole 2 at 10 on to pole 0 at 20: the later of the two is the last, though it was told first.
        Check.due("two minutes behind the last", x.who(1, 22), 3);
        Check.due("one minute behind the last", x.who(1, 21), 2);
        Check.due("four minutes behind the last", x.who(2, 24), 3);
        Check.due("three minutes behind the last", x.who(2, 23), 2);
        Check.due("two minutes behind the first", x.who(1, 12), 3);
        Check.due("one minute behind the first", x.who(1, 11), 2);
    }

    private static void whoAtASighting() {
        Check.sentence("ahead of that (or at it");
        RopePost x = Check.town(LINE);
        x.see(0, 1, 10);
        Check.due("where he was seen", x.who(1, 10), 3);
        Check.due("elsewhere then", x.who(0, 10), 6);
        Check.due("elsewhere then, too", x.who(2, 10), 2);
        x.see(0, 2, 0);
        Check.due("seen at 0: not at his pole", x.who(0, 0), 4);
        Check.due("but there", x.who(2, 0), 3);
        x.see(0, 0, 11);
        Check.due("where he was seen, but for the next one", x.who(1, 10), 2);
        Check.due("elsewhere then, nearer to the next one", x.who(0, 10), 6);
        x.see(0, 0, 9999);
        Check.due("seen at 9999", x.who(0, 9999), 7);
        Check.due("elsewhere at 9999", x.who(1, 9999), 2);
    }

    private static void whoToTheFirstBehind() {
        Check.sentence("and to the first one behind it, by FAR");
        RopePost x = Check.town(LINE);
        x.see(0, 2, 40);
        x.see(0, 0, 20);
        // The first one behind is by minute, not by telling.
        Check.due("two minutes ahead of it", x.who(1, 18), 3);
        Check.due("one minute ahead of it", x.who(1, 19), 2);
        Check.due("four minutes ahead of it", x.who(2, 16), 3);
        Check.due("three minutes ahead of it", x.who(2, 17), 2);
        Check.due("two minutes ahead of the next", x.who(1, 38), 3);
        Check.due("one minute ahead of the next", x.who(1, 39), 2);
        Check.due("between, in time for both", x.who(1, 30), 3);
        Check.due("none behind", x.who(2, 9999), 3);
        x.forget();
        x.see(0, 0, 20);
        x.see(0, 2, 40);
        Check.due("told in order, two minutes ahead of it", x.who(1, 18), 3);
        Check.due("told in order, one minute ahead of it", x.who(1, 19), 2);
        Check.due("told in order, one minute ahead of the next", x.who(1, 39), 2);
        x.see(0, 3, 60);
        Check.due("one behind to which he cannot come", x.who(2, 50), 2);
        Check.due("nor from it", x.who(2, 70), 2);
        Check.due("there he was seen", x.who(3, 60), 1);
    }

    private static void whoOfEachBoy() {
        Check.sentence("WHO: BOYS that COULD");
        RopePost x = Check.town("pole 0 0 5;pole 0 0 5;rope 0 1 10 99;boy 0 1 1;boy 0 1 2;boy 0 1 5;boy 0 1 10;");
        int[] due = {0, 8, 12, 12, 12, 14, 14, 14, 14, 14, 15, 15};
        for (int minute = 0; minute < 12; minute++) {
            Check.due("at " + minute, x.who(1, minute), due[minute]);
            Check.due("at home at " + minute, x.who(0, minute), 15);
        }
        x.see(3, 1, 50);
        Check.due("another's sighting is not of them", x.who(0, 50), 7);
        Check.due("nor behind it", x.who(0, 51), 15);
        Check.due("not in one minute from his own", x.who(0, 49), 15);
    }

    private static void whoByRopesAsTheyAreNow() {
        Check.sentence("by FAR (ROPES as they are now, none of them WET)");
        RopePost x = Check.town(LINE);
        x.wet(0, true);
        x.wet(1, true);
        Check.due("wet, in two minutes", x.who(1, 2), 3);
        Check.due("wet, in four", x.who(2, 4), 3);
        x.see(0, 0, 20);
        Check.due("wet, to one behind", x.who(1, 18), 3);
        x.cut(0);
        Check.due("cut", x.who(1, 18), 2);
        Check.due("cut, to one behind", x.who(0, 18), 5);
        Check.due("they are wet as before", x.rope(1, 5), 1);
        Check.due("and far by that", x.far(0, 1, 2), 4);
    }

    private static void whoCarriedAlone() {
        Check.sentence("COULD: by FAR: by ROPES that are whole and CARRY him alone");
        RopePost x = Check.town("pole 0 0 5;pole 0 0 5;rope 0 1 10 9;boy 0 9 5;boy 0 10 5;" + "load 0 1 200 0 level;".repeat(4));
        x.take(0, 0);
        Check.due("as much as it carries, one pound more", x.who(1, 2), 1);
        x.see(0, 1, 2);
        Check.due("judged", x.judge(), NONE);
        x.see(1, 1, 9999);
        Check.due("judged, of him whom it does not carry", x.judge(), 1);
    }

    private static void whoAtItsMost() {
        Check.sentence("SEEN: BOY, POLE, MINUTE (20 sightings at most)");
        RopePost x = Check.town(LINE);
        for (int k = 0; k < 20; k++) {
            x.see(0, k % 2, 10 * k);
        }
        Check.due("the last sighting counts", x.who(1, 190), 3);
        Check.due("the last sighting counts elsewhere", x.who(0, 190), 6);
        Check.due("the last but one", x.who(0, 180), 7);
        Check.due("between them", x.who(1, 182), 3);
        Check.due("between them, too soon", x.who(1, 181), 2);
    }

    // ---- judge

    private static void judgeNothing() {
        Check.sentence("WRONG; NONE");
        Check.due("no town", new RopePost().judge(), NONE);
        RopePost x = Check.town(LINE);
        Check.due("no sightings", x.judge(), NONE);
        x.see(0, 0, 0);
        Check.due("none wrong", x.judge(), NONE);
    }

    private static void judgeFirstOfABoy() {
        Check.sentence("the first of a BOY: from his POLE at 0");
        int[][] rows = {{0, 0, 0, NONE}, {0, 1, 0, 0}, {0, 1, 1, 0}, {0, 1, 2, NONE}, {0, 2, 3, 0}, {0, 2, 4, NONE}, {1, 0, 1, 0}, {1, 0, 2, NONE},
            {0, 3, 9999, 0}, {2, 1, 9999, 0}, {2, 0, 9999, NONE}};
        for (int[] row : rows) {
            RopePost x = Check.town(LINE);
            x.see(row[0], row[1], row[2]);
            Check.due("boy " + row[0] + " at " + row[1] + ", minute " + row[2], x.judge(), row[3]);
        }
    }

    private static void judgeMinuteIsLess() {
        Check.sentence("(its MINUTE is less");
        int[][] rows = {{50, 49, 1}, {50, 50, NONE}, {50, 51, NONE}, {9999, 0, 1}, {0, 0, NONE}, {1, 0, 1}};
        for (int[] row : rows) {
            RopePost x = Check.town(LINE);
            x.see(0, 0, row[0]);
            x.see(0, 0, row[1]);
            Check.due(row[1] + " behind " + row[0], x.judge(), row[2]);
        }
    }

    private static void judgeFarIsMore() {
        Check.sentence("FAR is more than what lies between");
        int[][] rows = {{1, 50, 1}, {1, 51, 1}, {1, 52, NONE}, {2, 53, 1}, {2, 54, NONE}, {2, 55, NONE}, {3, 9999, 1}};
        for (int[] row : rows) {
            RopePost x = Check.town(LINE);
            x.see(0, 0, 50);
            x.see(0, row[0], row[1]);
            Check.due("at " + row[0] + ", minute " + row[1], x.judge(), row[2]);
        }
        RopePost x = Check.town(LINE);
        x.see(0, 1, 2);
        x.cut(0);
        Check.due("cut: there is no way", x.judge(), 0);
        x.splice(0);
        Check.due("spliced", x.judge(), NONE);
    }

    private static void judgeAsTold() {
        Check.sentence("with the one of that BOY ahead of it, as told");
        RopePost x = Check.town(LINE);
        x.see(0, 0, 10);
        x.see(1, 2, 5);
        x.see(0, 0, 20);
        x.see(1, 2, 6);
        Check.due("each by its own boy", x.judge(), NONE);
        x.see(0, 0, 15);
        Check.due("between two by minute, behind them as told", x.judge(), 4);
    }

    private static void judgeTheFirst() {
        Check.sentence("WRONG: the first sighting that could not be");
        RopePost x = Check.town(LINE);
        x.see(0, 0, 10);
        x.see(0, 2, 11);
        x.see(0, 0, 0);
        x.see(1, 3, 0);
        Check.due("of three wrong ones", x.judge(), 1);
        x.forget();
        x.see(1, 3, 0);
        x.see(0, 2, 1);
        Check.due("of two boys' wrong ones", x.judge(), 0);
    }

    private static void judgeFull() {
        Check.sentence("20 sightings at most");
        RopePost x = Check.town(LINE);
        for (int k = 0; k < 19; k++) {
            x.see(0, 0, 100);
        }
        x.see(0, 0, 99);
        Check.due("the last of twenty", x.judge(), 19);
        Check.due("judging changes nothing", x.told(9), 20);
    }
}
