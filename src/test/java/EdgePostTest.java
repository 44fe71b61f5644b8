/** The edges of promises 19 to 21: far, round, dealt. Each method holds the words that it begins with. */
public final class EdgePostTest {
    private static final int U = RopePost.UNKNOWN, NONE = RopePost.NONE;
    private static final int LEAST = Integer.MIN_VALUE, MOST = Integer.MAX_VALUE;
    private static final String TWO = "pole 0 0 5;pole 0 0 5;", THREE = TWO + "pole 0 0 5;";

    public static void main(String[] args) {
        farUnknown();
        farOfNoWay();
        farByWayOfEachPole();
        farOfTheFullest();
        farByWhatCarriesHim();
        farByWholeRopes();
        farByWetRopes();
        farLooksAtNoOthers();
        farAtItsMost();
        roundUnknown();
        roundOfNoLoads();
        roundTwoAtATime();
        roundByPounds();
        roundByLong();
        roundByLevelAndWet();
        roundLaidDownOnlyThere();
        roundFromTheEnd();
        roundCarryingNothing();
        roundWhereTheyLie();
        roundOfDelivered();
        roundAlone();
        roundCannotBe();
        roundAtItsMost();
        dealtUnknown();
        dealtOfNoLoads();
        dealtOfDelivered();
        dealtCannotBe();
        dealtLeastLongest();
        dealtFirstOfLike();
        dealtEachAlone();
        Check.end("EdgePostTest");
    }

    private static String line() {
        StringBuilder town = new StringBuilder("pole 0 0 5;".repeat(8));
        for (int p = 0; p < 7; p++) {
            town.append("rope ").append(p).append(' ').append(p + 1).append(" 99 999;");
        }
        return town.toString();
    }

    // ---- far

    private static void farUnknown() {
        Check.sentence("far: UNKNOWN");
        for (int none : new int[] {LEAST, -1, 4, MOST}) {
            Twins.refusedToday("far(" + none + ", 0, 1)", x -> x.far(none, 0, 1), U);
            Twins.refusedToday("far(0, " + none + ", 1)", x -> x.far(0, none, 1), U);
            Twins.refusedToday("far(0, 1, " + none + ")", x -> x.far(0, 1, none), U);
            Twins.refusedToday("far(0, " + none + ", " + none + ")", x -> x.far(0, none, none), U);
        }
        RopePost x = Check.town(line() + "boy 0 1 1;");
        Check.due("the last pole", x.far(0, 7, 7), 0);
        Check.due("the next", x.far(0, 8, 7), U);
        Check.due("to the next", x.far(0, 7, 8), U);
        Check.due("the next boy", x.far(1, 7, 7), U);
    }

    private static void farOfNoWay() {
        Check.sentence("FAR of a BOY between POLES: fewest minutes; NONE");
        RopePost x = Check.town(THREE + "rope 0 1 10 999;boy 2 200 1;");
        Check.due("from a pole to itself", x.far(0, 0, 0), 0);
        Check.due("where no rope ends", x.far(0, 2, 2), 0);
        Check.due("no way", x.far(0, 0, 2), NONE);
        Check.due("no way back", x.far(0, 2, 0), NONE);
        Check.due("a way", x.far(0, 0, 1), 10);
        Check.due("a way back", x.far(0, 1, 0), 10);
        Check.due("no ropes at all", Check.town(TWO + "boy 0 1 1;").far(0, 0, 1), NONE);
        x = Check.town(THREE + "rope 0 1 10 999;rope 1 2 10 999;rope 0 2 21 999;rope 0 1 9 999;boy 2 200 1;");
        Check.due("the fewest, by two ropes", x.far(0, 0, 2), 19);
        x.cut(3);
        Check.due("by two others", x.far(0, 0, 2), 20);
        x.wet(1, true);
        Check.due("by one", x.far(0, 0, 2), 21);
    }

    private static void farByWayOfEachPole() {
        Check.sentence("FAR of a BOY between POLES: fewest minutes by ROPES");
        for (int by = 0; by < 8; by++) {
            int p = by == 0 ? 1 : 0, q = by == 7 ? 6 : 7;
            RopePost x = Check.town("pole 0 0 5;".repeat(8) + "rope " + p + " " + by + " 10 99;rope " + q + " " + by + " 20 99;boy " + p
                + " 1 10;load " + p + " " + q + " 0 0 plain;");
            Check.due("far by way of " + by, x.far(0, p, q), 3);
            Check.due("far back by way of " + by, x.far(0, q, p), 3);
            Check.due("round by way of " + by, x.round(0, 1), 3);
            Check.due("who by way of " + by, x.who(q, 3), 1);
            Check.due("who by way of " + by + ", too soon", x.who(q, 2), 0);
        }
    }

    private static void farOfTheFullest() {
        Check.sentence("8 POLES, 12 ROPES, 4 BOYS, 4 LOADS at most");
        StringBuilder town = new StringBuilder(line());
        town.append("rope 7 0 99 999;rope 0 1 98 999;rope 0 1 97 999;rope 0 1 96 999;rope 0 7 50 999;");
        RopePost x = Check.town(town + "boy 0 1 1;".repeat(4) + "load 0 7 0 0 plain;".repeat(4));
        Check.due("by the last rope", x.far(3, 0, 7), 50);
        Check.due("by the last but one", x.far(3, 0, 1), 96);
        Check.due("round by the last rope", x.round(3, 15), 150);
        Check.due("dealt by the last rope", x.dealt(NONE), 50);
        Check.due("the last load", x.dealt(3), 1);
        Check.due("who by the last rope", x.who(7, 50), 15);
        Check.due("who by the last rope, too soon", x.who(7, 49), 0);
        Check.due("kept by the last rope and another", x.kept(129), 2048 + 128);
        Check.due("all are at one place: no new rope", x.newRope(0), NONE);
        x.cut(11);
        Check.due("without it", x.far(3, 0, 7), 99);
    }

    private static void farByWhatCarriesHim() {
        Check.sentence("by ROPES that CARRY him alone");
        for (int pounds : new int[] {1, 2, 199, 200}) {
            RopePost x = Check.town(TWO + "rope 0 1 10 " + pounds + ";boy 0 " + pounds + " 10;load 0 1 200 0 plain;");
            Check.due("as much as it carries", x.far(0, 0, 1), 1);
            x.take(0, 0);
            Check.due("alone: his load is not of it", x.far(0, 0, 1), 1);
            if (pounds > 1) {
                x = Check.town(TWO + "rope 0 1 10 " + (pounds - 1) + ";rope 0 1 99 " + pounds + ";boy 0 " + pounds + " 10;");
                Check.due("one pound too many on the short one", x.far(0, 0, 1), 10);
                x.cut(1);
                Check.due("one pound too many", x.far(0, 0, 1), NONE);
            }
        }
        RopePost x = Check.town(TWO + "rope 0 1 10 99;boy 0 1 10;load 0 1 0 0 long;load 0 1 0 0 level;");
        x.take(0, 0);
        x.take(0, 1);
        Check.due("alone: neither long nor level is of it", x.far(0, 0, 1), 1);
    }

    private static void farByWholeRopes() {
        Check.sentence("by ROPES that are whole");
        RopePost x = Check.town(TWO + "rope 0 1 10 99;boy 0 90 10;");
        for (int k = 0; k < 9; k++) {
            x.go(0, 0);
            x.pass(1);
        }
        Check.due("wear of 90", x.far(0, 0, 1), 1);
        x.go(0, 0);
        x.pass(1);
        Check.due("broken", x.far(0, 0, 1), NONE);
        x.splice(0);
        Check.due("spliced", x.far(0, 0, 1), 1);
        x.cut(0);
        Check.due("cut", x.far(0, 0, 1), NONE);
    }

    private static void farByWetRopes() {
        Check.sentence("as WET as they are");
        RopePost x = Check.town(TWO + "rope 0 1 10 99;rope 0 1 25 99;boy 0 90 10;");
        Check.due("dry", x.far(0, 0, 1), 1);
        x.wet(0, true);
        Check.due("wet", x.far(0, 0, 1), 2);
        x.cut(0);
        Check.due("the other, dry", x.far(0, 0, 1), 3);
        x.wet(1, true);
        Check.due("the other, wet", x.far(0, 0, 1), 6);
    }

    private static void farLooksAtNoOthers() {
        Check.sentence("(Others are not looked at.)");
        RopePost x = Check.town("pole 0 0 5;pole 0 0 1;rope 0 1 10 99;boy 0 1 10;boy 0 1 1;boy 1 1 1;");
        x.go(1, 0);
        Check.due("one is on the rope, the pole is full", x.far(0, 0, 1), 1);
        x.go(0, 0);
        Check.due("of him who is on it", x.far(1, 0, 1), 10);
        Check.due("wherever he is", x.far(1, 1, 0), 10);
    }

    private static void farAtItsMost() {
        Check.sentence("FAR: fewest minutes");
        RopePost x = Check.town(line() + "boy 0 200 1;boy 0 1 50;");
        Check.due("seven ropes", x.far(0, 0, 7), 693);
        Check.due("seven ropes back", x.far(0, 7, 0), 693);
        Check.due("seven ropes, each up", x.far(1, 0, 7), 14);
        for (int r = 0; r < 7; r++) {
            x.wet(r, true);
        }
        Check.due("seven wet ropes", x.far(0, 0, 7), 1386);
        x.cut(3);
        Check.due("one is cut", x.far(0, 0, 7), NONE);
        Check.due("up to it", x.far(0, 0, 3), 594);
    }

    // ---- round

    private static void roundUnknown() {
        Check.sentence("round: UNKNOWN (a BOY, LOAD that there is not; bits of such)");
        for (int none : new int[] {LEAST, -1, 4, MOST}) {
            Twins.refusedToday("round(" + none + ", 8)", x -> x.round(none, 8), U);
            Twins.refusedToday("round(" + none + ", 0)", x -> x.round(none, 0), U);
        }
        for (int set : new int[] {LEAST, LEAST + 1, -16, -1, 16, 17, 31, 32, 1 << 30, MOST}) {
            Twins.refusedToday("round(0, " + set + ")", x -> x.round(0, set), U);
        }
        RopePost x = Check.town(TWO + "rope 0 1 10 99;boy 0 1 10;load 0 1 1 1 plain;");
        Check.due("the only one", x.round(0, 1), 1);
        Check.due("the next", x.round(0, 2), U);
        Check.due("both", x.round(0, 3), U);
        x = Check.town(TWO + "boy 0 1 10;");
        Check.due("of no loads", x.round(0, 0), 0);
        Check.due("there are none", x.round(0, 1), U);
    }

    private static void roundOfNoLoads() {
        Check.sentence("ROUND of a BOY for a SET of LOADS: the fewest minutes to DELIVER all: none");
        RopePost x = new RopePost();
        Twins.day(x);
        for (int b = 0; b < 4; b++) {
            Check.due("no loads, boy " + b, x.round(b, 0), 0);
            Check.due("a delivered one alone, boy " + b, x.round(b, 1), 0);
        }
    }

    private static void roundTwoAtATime() {
        Check.sentence("2 at a time at most");
        RopePost x = Check.town(TWO + "rope 0 1 20 99;boy 0 1 10;load 0 1 0 0 plain;load 0 1 0 0 alive;load 0 1 0 0 plain;load 0 1 0 0 long;");
        int[] due = {0, 2, 2, 6, 6};
        for (int set = 0; set < 16; set++) {
            Check.due("round of " + set, x.round(0, set), due[Integer.bitCount(set)]);
        }
        x = Check.town(TWO + "rope 0 1 20 99;boy 0 1 10;load 0 1 0 0 plain;load 1 0 0 0 plain;load 0 1 0 0 plain;load 1 0 0 0 plain;");
        Check.due("two there, two back", x.round(0, 15), 4);
    }

    private static void roundByPounds() {
        Check.sentence("each way by the ROPES that may be gone with what he carries: pounds");
        String loads = "load 0 1 20 0 plain;load 0 1 30 0 plain;";
        int[][] rows = {{10, 0, 0, 0}, {29, 0, 0, 0}, {30, 2, 0, 0}, {39, 2, 0, 0}, {40, 2, 2, 6}, {59, 2, 2, 6}, {60, 2, 2, 2}};
        for (int[] row : rows) {
            RopePost x = Check.town(TWO + "rope 0 1 20 " + row[0] + ";boy 0 10 10;" + loads);
            for (int set = 1; set <= 3; set++) {
                Check.due("round of " + set + " by " + row[0], x.round(0, set), row[set] == 0 ? NONE : row[set]);
            }
        }
        RopePost x = Check.town(TWO + "rope 0 1 20 59;rope 0 1 50 60;boy 0 10 10;" + loads);
        Check.due("both at once by the longer one", x.round(0, 3), 5);
        x = Check.town(TWO + "rope 0 1 20 59;rope 0 1 61 60;boy 0 10 10;" + loads);
        Check.due("one by one by the shorter", x.round(0, 3), 6);
    }

    private static void roundByLong() {
        Check.sentence("each way by the ROPES that may be gone with what he carries: no 'long' LOAD on one shorter than 20 feet");
        String town = "boy 0 1 1;boy 1 1 1;load 0 1 0 0 long;load 0 1 0 0 plain;";
        RopePost x = Check.town(TWO + "rope 0 1 19 99;" + town);
        Check.due("19 feet", x.round(0, 1), NONE);
        Check.due("19 feet, the other", x.round(0, 2), 19);
        x = Check.town(TWO + "rope 0 1 20 99;" + town);
        Check.due("20 feet", x.round(0, 1), 20);
        x = Check.town(TWO + "rope 0 1 19 99;rope 1 0 20 99;" + town);
        Check.due("the longer one with it", x.round(0, 1), 20);
        Check.due("the shorter without it", x.round(0, 2), 19);
        Check.due("there by the shorter, back by the longer", x.round(1, 1), 39);
        Check.due("with both by the longer", x.round(1, 3), 39);
    }

    private static void roundByLevelAndWet() {
        Check.sentence("ROPES as WET as they are; half as many more, if he carries 'level' LOADS");
        RopePost x = Check.town(TWO + "rope 0 1 30 99;boy 0 1 10;boy 1 1 10;load 0 1 0 0 level;load 1 0 0 0 plain;");
        Check.due("with it", x.round(0, 1), 4);
        Check.due("there without it, back with it", x.round(1, 1), 7);
        Check.due("there with it, back without it", x.round(0, 3), 7);
        x.wet(0, true);
        Check.due("with it, wet", x.round(0, 1), 8);
        Check.due("there and back, wet", x.round(1, 1), 14);
        x = Check.town(TWO + "rope 0 1 1 99;boy 0 1 1;load 0 1 0 0 level;");
        Check.due("1 more at least", x.round(0, 1), 2);
    }

    private static void roundLaidDownOnlyThere() {
        Check.sentence("each laid down only where it is to go");
        RopePost x = Check.town(THREE + "rope 0 1 10 999;rope 1 2 10 20;boy 0 10 10;load 0 2 10 0 plain;load 0 2 10 0 plain;");
        Check.due("one", x.round(0, 1), 2);
        // Both up to pole 1 and one by one from there would be 4.
        Check.due("one by one, all the way", x.round(0, 3), 6);
        x = Check.town(THREE + "rope 0 1 10 999;rope 1 2 10 999;boy 0 10 10;load 0 2 10 0 plain;load 0 1 10 0 plain;load 1 2 10 0 plain;");
        Check.due("laid down on the way, where it is to go", x.round(0, 7), 2);
    }

    private static void roundFromTheEnd() {
        Check.sentence("from where he is (the end to which he goes, with the minutes to it)");
        RopePost x = Check.town("pole 0 0 5;pole 0 0 1;rope 0 1 30 99;boy 0 1 10;boy 1 1 10;load 0 1 0 0 plain;load 1 0 0 0 plain;");
        Check.due("at a pole", x.round(0, 2), 6);
        x.go(0, 0);
        int[] left = {3, 2, 1, 1, 1};
        for (int minute = 0; minute < 5; minute++) {
            Check.due("from the end, at " + minute, x.round(0, 2), left[minute] + 3);
            Check.due("and back, at " + minute, x.round(0, 1), left[minute] + 6);
            x.pass(1);
        }
        x = Check.town(TWO + "rope 0 1 30 99;boy 1 1 10;load 0 1 0 0 plain;");
        x.wet(0, true);
        x.go(0, 0);
        x.wet(0, false);
        x.pass(1);
        Check.due("the minutes that he has to go", x.round(0, 1), 5 + 3);
    }

    private static void roundCarryingNothing() {
        Check.sentence("carrying nothing, (carried ones where they were told");
        RopePost x = Check.town(THREE + "rope 0 1 10 99;rope 1 2 10 99;boy 0 1 10;boy 2 1 10;load 0 2 0 0 plain;load 0 2 0 0 plain;");
        x.take(0, 0);
        Check.due("he stands where it was told", x.round(0, 1), 2);
        x.go(0, 0);
        x.pass(1);
        Check.due("he must go back for it", x.round(0, 1), 3);
        Check.due("the other goes for it too", x.round(1, 1), 4);
        x.lay(0, 0);
        x.take(0, 0);
        Check.due("taken up again: where it was told, not where it lay", x.round(0, 1), 3);
    }

    private static void roundWhereTheyLie() {
        Check.sentence("the LOADS lying where they lie");
        RopePost x = Check.town(THREE + "rope 0 1 10 99;rope 1 2 10 99;boy 0 1 10;boy 2 1 10;load 0 2 0 0 plain;");
        Check.due("where it was told", x.round(1, 1), 4);
        x.take(0, 0);
        x.go(0, 0);
        x.pass(1);
        x.lay(0, 0);
        Check.due("where it was laid down", x.round(0, 1), 1);
        Check.due("of the other", x.round(1, 1), 2);
    }

    private static void roundOfDelivered() {
        Check.sentence("DELIVERED ones are not of it");
        RopePost x = Check.town(TWO + "rope 0 1 10 99;boy 0 1 10;load 0 1 0 0 plain;load 1 0 0 0 plain;load 0 1 0 0 plain;");
        x.take(0, 0);
        x.go(0, 0);
        x.pass(1);
        Check.due("delivered", x.round(0, 1), 0);
        Check.due("delivered with another", x.round(0, 3), 1);
        Check.due("another", x.round(0, 2), 1);
        Check.due("all", x.round(0, 7), 2);
        x.cut(0);
        Check.due("delivered, the rope is cut", x.round(0, 1), 0);
        Check.due("delivered with another, the rope is cut", x.round(0, 3), NONE);
    }

    private static void roundAlone() {
        Check.sentence("as though he were alone");
        RopePost x = Check.town("pole 0 0 5;pole 0 0 1;rope 0 1 10 99;boy 0 1 10;boy 0 1 1;boy 1 1 1;load 0 1 0 0 alive;load 0 1 0 0 plain;");
        x.take(1, 1);
        x.go(1, 0);
        Check.due("one is on the rope, the pole is full, another has it", x.round(0, 3), 1);
        x.pass(99);
        Check.due("however late it is", x.round(0, 1), 1);
    }

    private static void roundCannotBe() {
        Check.sentence("the fewest minutes to DELIVER all; NONE");
        RopePost x = Check.town(THREE + "rope 0 1 10 99;boy 0 1 10;boy 2 1 10;load 0 1 0 0 plain;load 0 2 0 0 plain;load 2 0 0 0 plain;");
        Check.due("one that can be", x.round(0, 1), 1);
        Check.due("one to where no rope goes", x.round(0, 2), NONE);
        Check.due("one from where no rope goes", x.round(0, 4), NONE);
        Check.due("one that can be with one that cannot", x.round(0, 3), NONE);
        Check.due("all", x.round(0, 7), NONE);
        Check.due("he cannot come to it", x.round(1, 1), NONE);
        x.cut(0);
        Check.due("cut", x.round(0, 1), NONE);
    }

    private static void roundAtItsMost() {
        Check.sentence("ROUND: the fewest minutes");
        RopePost x = Check.town(line() + "boy 7 200 1;" + "load 0 7 200 999 level;".repeat(4));
        for (int r = 0; r < 7; r++) {
            x.wet(r, true);
        }
        int there = 7 * 2 * 99, back = 7 * 296;
        Check.due("two", x.round(0, 3), there + back);
        Check.due("four", x.round(0, 15), 2 * (there + back));
        x.go(0, 6);
        Check.due("four, from a rope", x.round(0, 15), 2 * (there + back));
        Check.due("dealt", x.dealt(NONE), 2 * (there + back));
    }

    // ---- dealt

    private static void dealtUnknown() {
        Check.sentence("dealt: l = NONE the longest, else the BOY of a LOAD. UNKNOWN");
        for (int none : new int[] {LEAST, -3, -2, 4, 5, MOST}) {
            Twins.refusedToday("dealt(" + none + ")", x -> x.dealt(none), U);
        }
        RopePost x = Check.town(TWO + "rope 0 1 10 99;boy 0 1 10;load 0 1 0 0 plain;");
        Check.due("NONE", x.dealt(NONE), 1);
        Check.due("the only one", x.dealt(0), 0);
        Check.due("the next", x.dealt(1), U);
    }

    private static void dealtOfNoLoads() {
        Check.sentence("DEALT: each LOAD that is not DELIVERED to one BOY: none");
        Check.due("no town", new RopePost().dealt(NONE), 0);
        Check.due("no loads", Check.town(TWO + "boy 0 1 1;").dealt(NONE), 0);
        Check.due("no loads, no boys", Check.town(TWO).dealt(NONE), 0);
        Check.due("no such load", Check.town(TWO + "boy 0 1 1;").dealt(0), U);
    }

    private static void dealtOfDelivered() {
        Check.sentence("the BOY of a LOAD (NONE: it is DELIVERED)");
        RopePost x = Check.town(TWO + "rope 0 1 10 99;boy 0 1 10;boy 0 1 1;load 0 1 0 0 plain;load 0 1 0 0 plain;");
        x.take(0, 0);
        x.go(0, 0);
        x.pass(1);
        Check.due("delivered", x.dealt(0), NONE);
        Check.due("the other", x.dealt(1), 0);
        Check.due("longest", x.dealt(NONE), 2);
        x.go(0, 0);
        x.pass(1);
        x.take(1, 1);
        x.go(1, 0);
        x.pass(10);
        x.go(0, 0);
        Check.due("all delivered, one on a rope", x.dealt(NONE), 0);
        Check.due("nobody", x.dealt(1), NONE);
    }

    private static void dealtCannotBe() {
        Check.sentence("NONE: it cannot be");
        RopePost x = Check.town(TWO + "rope 0 1 10 99;load 0 1 0 0 plain;");
        Check.due("no boys", x.dealt(NONE), NONE);
        Check.due("no boy", x.dealt(0), NONE);
        x = Check.town(TWO + "rope 0 1 10 99;boy 0 50 1;boy 0 60 1;load 0 1 49 0 plain;load 0 1 50 0 plain;");
        Check.due("one that nobody can carry", x.dealt(NONE), NONE);
        Check.due("so none is dealt", x.dealt(0), NONE);
        Check.due("nor that", x.dealt(1), NONE);
        x = Check.town(TWO + "rope 0 1 10 99;boy 0 49 1;boy 0 60 1;load 0 1 49 0 plain;load 0 1 50 0 plain;");
        Check.due("one can carry it", x.dealt(1), 0);
        Check.due("so all are dealt", x.dealt(NONE), 30);
        x.cut(0);
        Check.due("no rope", x.dealt(NONE), NONE);
        Check.due("nobody any more", x.dealt(0), NONE);
        Check.due("nor of the other", x.dealt(1), NONE);
    }

    private static void dealtLeastLongest() {
        Check.sentence("the least that the longest ROUND can be");
        RopePost x = Check.town(THREE + "rope 0 1 40 99;rope 0 2 40 99;boy 0 1 10;boy 0 1 20;load 0 1 0 0 plain;load 0 2 0 0 plain;");
        // One boy for both: 12 or 6; one each: 4 and 2.
        Check.due("longest", x.dealt(NONE), 4);
        Check.due("the first of like ones", x.dealt(0), 0);
        Check.due("the other", x.dealt(1), 1);
        x = Check.town(THREE + "rope 0 1 40 99;rope 0 2 40 99;boy 0 1 1;boy 0 1 20;load 0 1 0 0 plain;load 0 2 0 0 plain;");
        Check.due("one boy for both is sooner", x.dealt(NONE), 6);
        Check.due("the quicker one", x.dealt(0), 1);
        Check.due("for both", x.dealt(1), 1);
    }

    private static void dealtFirstOfLike() {
        Check.sentence("of like ones the first (LOAD by LOAD the lesser BOY)");
        for (int boys = 1; boys <= 4; boys++) {
            RopePost x = Check.town(TWO + "rope 0 1 10 99;" + "boy 0 1 10;".repeat(boys) + "load 0 1 0 0 plain;".repeat(4));
            int[] due = {0, 0, boys == 1 ? 0 : 1, boys == 1 ? 0 : 1};
            Check.due("longest of " + boys, x.dealt(NONE), boys == 1 ? 3 : 1);
            for (int l = 0; l < 4; l++) {
                Check.due("boy of load " + l + ", of " + boys, x.dealt(l), due[l]);
            }
        }
        // Load 1 takes 9 minutes of anybody who can; so the slow boy 0 may have load 0, which takes him 8.
        RopePost x = Check.town(THREE + "rope 0 1 8 99;rope 0 2 90 2;boy 0 5 1;boy 0 1 10;load 0 1 0 0 plain;load 0 2 0 0 plain;");
        Check.due("longest", x.dealt(NONE), 9);
        Check.due("the lesser boy, though he is slower", x.dealt(0), 0);
        Check.due("who alone can", x.dealt(1), 1);
        // Now it would take him 10: too long.
        x = Check.town(THREE + "rope 0 1 10 99;rope 0 2 70 2;boy 0 5 1;boy 0 1 10;load 0 1 0 0 plain;load 0 2 0 0 plain;");
        Check.due("longest", x.dealt(NONE), 9);
        Check.due("the other boy has both", x.dealt(0), 1);
    }

    private static void dealtEachAlone() {
        Check.sentence("each alone his ROUND");
        RopePost x = Check.town("pole 0 0 5;pole 0 0 1;rope 0 1 10 99;boy 0 1 10;boy 0 1 10;boy 0 1 10;boy 1 1 1;"
            + "load 0 1 0 0 plain;load 0 1 0 0 plain;load 0 1 0 0 plain;load 0 1 0 0 plain;");
        Check.due("one rope for all at once, a full pole", x.dealt(NONE), 1);
        x = Check.town(TWO + "rope 0 1 99 99;rope 0 1 10 99;boy 0 1 1;boy 0 1 10;load 0 1 0 0 plain;");
        x.go(0, 0);
        Check.due("he who has none is not of the longest", x.dealt(NONE), 1);
        Check.due("the other has it", x.dealt(0), 1);
    }
}
