/** Promises 19 to 21: far, round, dealt. */
public final class PostTest {
    private static final int U = RopePost.UNKNOWN, NONE = RopePost.NONE;

    public static void main(String[] args) {
        far();
        farLooksAtHimAlone();
        round();
        roundTwoAtATime();
        roundByWhatMayBeGone();
        roundFromWhereHeIs();
        roundWhereLoadsLie();
        dealt();
        dealtFirstOfLike();
        dealtWithIdleOnRopes();
        dealtCannotBe();
        Check.end("PostTest");
    }

    private static void far() {
        RopePost x = Check.town("pole 0 0 5;pole 0 0 5;pole 0 0 5;pole 0 0 5;rope 0 1 11 50;rope 2 1 11 60;rope 0 2 41 99;"
            + "boy 0 50 10;boy 3 60 5;boy 3 61 50;");
        Check.due("no boy", x.far(3, 0, 0), U);
        Check.due("boy -1", x.far(-1, 0, 0), U);
        Check.due("no pole", x.far(0, 4, 0), U);
        Check.due("no other pole", x.far(0, 0, 4), U);
        Check.due("pole -1", x.far(0, -1, 0), U);
        Check.due("other pole -1", x.far(0, 0, -1), U);
        Check.due("each rope's minutes are cut up", x.far(0, 0, 2), 4);
        Check.due("back", x.far(0, 2, 0), 4);
        Check.due("what carries him", x.far(1, 0, 2), 9);
        Check.due("round about", x.far(1, 0, 1), 12);
        Check.due("none", x.far(2, 0, 1), NONE);
        Check.due("not joined", x.far(0, 0, 3), NONE);
        Check.due("itself", x.far(2, 3, 3), 0);
        x.wet(0, true);
        Check.due("wet", x.far(0, 0, 2), 5);
        Check.due("wet alone", x.far(0, 0, 1), 4);
        x.wet(1, true);
        Check.due("both wet", x.far(0, 0, 2), 5);
        x.cut(2);
        Check.due("by the wet ones", x.far(0, 0, 2), 8);
        x.cut(0);
        Check.due("cut", x.far(0, 0, 2), NONE);
    }

    private static void farLooksAtHimAlone() {
        RopePost x = Check.town("pole 0 0 5;pole 0 0 1;rope 0 1 15 50;boy 0 50 10;boy 1 1 1;load 0 1 9 9 long;load 0 1 9 9 level;");
        x.take(0, 0);
        x.take(0, 1);
        x.go(1, 0);
        Check.due("whoever is on it, whatever he carries", x.far(0, 0, 1), 2);
    }

    private static void round() {
        RopePost x = Check.town("pole 0 0 5;pole 0 0 5;pole 0 0 5;rope 0 1 10 99;rope 1 2 20 99;boy 0 9 10;boy 2 9 5;"
            + "load 1 2 1 1 plain;load 2 0 1 1 plain;load 0 2 1 1 level;");
        Check.due("no boy", x.round(2, 1), U);
        Check.due("boy -1", x.round(-1, 1), U);
        Check.due("bits of no load", x.round(0, 8), U);
        Check.due("a bit of one, a bit of none", x.round(0, 9), U);
        Check.due("-1", x.round(0, -1), U);
        Check.due("nothing to deliver", x.round(0, 0), 0);
        Check.due("there and on", x.round(0, 1), 3);
        Check.due("there and back", x.round(0, 3), 6);
        Check.due("level", x.round(0, 4), 5);
        Check.due("level, and the other on the way", x.round(0, 5), 5);
        Check.due("all", x.round(0, 7), 8);
        Check.due("the other boy", x.round(1, 2), 6);
        Check.due("the other boy back and forth", x.round(1, 6), 15);
        x.wet(1, true);
        Check.due("wet", x.round(0, 1), 5);
        Check.due("wet and level", x.round(0, 4), 8);
    }

    private static void roundTwoAtATime() {
        RopePost x = Check.town("pole 0 0 5;pole 0 0 5;rope 0 1 10 99;boy 0 9 10;load 0 1 1 1 plain;load 0 1 1 1 plain;"
            + "load 0 1 1 1 plain;load 0 1 1 1 plain;");
        int[] due = {0, 1, 1, 3, 3};
        for (int set = 0; set < 16; set++) {
            Check.due("round of " + set, x.round(0, set), due[Integer.bitCount(set)]);
        }
    }

    private static void roundByWhatMayBeGone() {
        RopePost x = Check.town("pole 0 0 5;pole 0 0 5;rope 0 1 10 20;rope 0 1 19 30;rope 0 1 50 35;boy 0 9 10;load 0 1 11 1 plain;"
            + "load 0 1 12 1 plain;load 0 1 1 1 long;load 0 1 27 1 plain;");
        Check.due("20 pounds", x.round(0, 1), 1);
        Check.due("21 pounds", x.round(0, 2), 2);
        Check.due("both at once would be 32: one by one", x.round(0, 3), 4);
        Check.due("long", x.round(0, 4), 5);
        Check.due("long with a load", x.round(0, 5), 5);
        Check.due("too heavy", x.round(0, 8), NONE);
        Check.due("too heavy with others", x.round(0, 9), NONE);
        x.cut(0);
        Check.due("cut", x.round(0, 1), 2);
    }

    private static void roundFromWhereHeIs() {
        RopePost x = Check.town("pole 0 0 5;pole 0 0 1;rope 0 1 50 99;rope 0 1 30 99;boy 0 9 10;boy 1 1 1;load 1 0 1 1 plain;load 0 1 1 1 plain;");
        Check.due("from the pole", x.round(0, 1), 6);
        x.take(0, 1);
        x.go(0, 0);
        x.pass(2);
        Check.due("from the end to which he goes", x.round(0, 1), 6);
        Check.due("what he carries lies where it was told", x.round(0, 2), 9);
        Check.due("of no loads, on a rope", x.round(0, 0), 0);
        x.pass(5);
        Check.due("he waits", x.boy(0, 2), 1);
        Check.due("of no loads, waiting", x.round(0, 0), 0);
        Check.due("from where he waits", x.round(0, 1), 4);
        x.go(1, 1);
        x.pass(1);
        Check.due("as though alone on the ropes", x.round(0, 1), 3);
    }

    private static void roundWhereLoadsLie() {
        RopePost x = Check.town("pole 0 0 5;pole 0 0 5;pole 0 0 5;rope 0 1 10 99;rope 1 2 10 99;boy 0 9 10;boy 2 9 10;"
            + "load 0 2 1 1 plain;load 0 1 1 1 plain;");
        x.take(0, 0);
        x.take(0, 1);
        x.go(0, 0);
        Check.due("carried: where they were told", x.round(1, 1), 4);
        x.pass(1);
        Check.due("carried still", x.round(1, 1), 4);
        x.lay(0, 0);
        Check.due("where it lies", x.round(1, 1), 2);
        Check.due("for him who laid it", x.round(0, 1), 1);
        Check.due("delivered ones are not of it", x.round(1, 3), 2);
        Check.due("delivered alone", x.round(1, 2), 0);
        x.take(0, 0);
        x.go(0, 1);
        x.pass(1);
        Check.due("all delivered", x.round(1, 3), 0);
        x.go(1, 1);
        Check.due("all delivered, on a rope", x.round(1, 3), 0);
        Check.due("one delivered, on a rope", x.round(1, 2), 0);
        Check.due("of no loads, on a rope", x.round(1, 0), 0);
        Check.due("dealt then", x.dealt(-1), 0);
    }

    private static void dealt() {
        RopePost x = Check.town("pole 0 0 5;pole 0 0 5;pole 0 0 5;rope 0 1 10 99;rope 0 2 10 99;boy 0 9 10;boy 0 9 5;"
            + "load 0 1 1 1 plain;load 0 2 1 1 plain;load 0 1 1 1 plain;load 0 2 1 1 plain;");
        Check.due("no load", x.dealt(4), U);
        Check.due("-2", x.dealt(-2), U);
        Check.due("longest", x.dealt(-1), 2);
        int[] due = {0, 1, 0, 1};
        for (int l = 0; l < 4; l++) {
            Check.due("boy of " + l, x.dealt(l), due[l]);
        }
        x.take(0, 1);
        x.take(0, 3);
        x.go(0, 1);
        x.pass(1);
        Check.due("delivered has none", x.dealt(1), NONE);
        Check.due("he who is near", x.dealt(0), 0);
        Check.due("so does the other", x.dealt(2), 0);
        Check.due("longest of that", x.dealt(-1), 2);
    }

    private static void dealtFirstOfLike() {
        RopePost x = Check.town("pole 0 0 5;pole 0 0 5;rope 0 1 10 99;boy 0 9 10;boy 0 9 10;boy 0 9 10;"
            + "load 0 1 1 1 plain;load 0 1 1 1 plain;load 0 1 1 1 plain;load 0 1 1 1 plain;");
        int[] due = {0, 0, 1, 1};
        Check.due("longest", x.dealt(-1), 1);
        for (int l = 0; l < 4; l++) {
            Check.due("boy of " + l, x.dealt(l), due[l]);
        }
        x = Check.town("pole 0 0 5;pole 0 0 5;rope 0 1 99 99;boy 0 9 1;boy 0 9 50;load 0 1 1 1 plain;");
        Check.due("the quicker", x.dealt(0), 1);
        x.go(1, 0);
        Check.due("he who is away", x.dealt(0), 1);
        Check.due("and his minutes", x.dealt(-1), 6);
        x.go(0, 0);
        x.pass(99);
        x = Check.town("pole 0 0 5;pole 0 0 5;rope 0 1 99 99;rope 0 1 99 99;boy 0 9 1;boy 0 9 50;load 0 1 1 1 plain;");
        x.take(1, 0);
        x.go(1, 0);
        x.go(0, 1);
        x.pass(2);
        Check.due("nothing left to deal", x.dealt(0), NONE);
        Check.due("though one is still on his way", x.dealt(-1), 0);
    }

    private static void dealtWithIdleOnRopes() {
        RopePost x = Check.town("pole 0 0 5;pole 0 0 5;pole 0 0 5;rope 0 1 99 99;rope 0 2 10 99;boy 0 9 1;boy 0 9 10;"
            + "load 0 2 1 1 plain;load 0 2 1 1 plain;");
        x.go(0, 0);
        x.pass(1);
        Check.due("he on the long rope", x.round(0, 1), 98 + 99 + 10);
        Check.due("has no part in the longest", x.dealt(-1), 1);
        Check.due("nor in the deal", x.dealt(0), 1);
        Check.due("nor of the other load", x.dealt(1), 1);
        x = Check.town("pole 0 0 5;pole 0 0 5;pole 0 0 5;rope 0 1 9 99;rope 1 0 9 99;rope 0 2 5 99;boy 0 9 1;boy 1 9 1;"
            + "load 0 2 1 1 plain;load 0 2 1 1 plain;");
        x.go(0, 0);
        x.go(1, 1);
        x.pass(8);
        Check.due("he who comes", x.round(1, 3), 1 + 5);
        Check.due("he who goes", x.round(0, 3), 1 + 9 + 5);
        Check.due("longest", x.dealt(-1), 6);
        Check.due("both to him who comes", x.dealt(0), 1);
        Check.due("both to him", x.dealt(1), 1);
        x.pass(1);
        x.go(1, 2);
        Check.due("he who went off would be later", x.round(1, 3), 5 + 5 + 5);
        Check.due("than he who stands", x.dealt(-1), 9 + 5);
        Check.due("both to him who stands", x.dealt(0), 0);
        Check.due("both", x.dealt(1), 0);
    }

    private static void dealtCannotBe() {
        RopePost x = Check.town("pole 0 0 5;pole 0 0 5;pole 0 0 5;rope 0 1 10 50;rope 1 2 10 99;boy 0 9 10;boy 2 60 10;"
            + "load 0 1 1 1 plain;load 1 2 100 1 plain;");
        Check.due("one that none can carry", x.dealt(-1), NONE);
        Check.due("so none is dealt", x.dealt(0), NONE);
        Check.due("nor that", x.dealt(1), NONE);
        x = Check.town("pole 0 0 5;pole 0 0 5;rope 0 1 1 1;load 0 1 1 1 plain;");
        Check.due("no boys", x.dealt(-1), NONE);
        Check.due("no boy", x.dealt(0), NONE);
        x = Check.town("pole 0 0 5;pole 0 0 5;rope 0 1 1 1;boy 0 1 1;");
        Check.due("no loads", x.dealt(-1), 0);
        Check.due("no load", x.dealt(0), U);
        x = Check.town("pole 0 0 5;pole 0 0 5;pole 0 0 5;rope 0 1 10 50;rope 1 2 10 160;boy 0 9 10;boy 2 60 10;"
            + "load 0 1 1 1 plain;load 1 2 100 1 plain;");
        Check.due("each what he can", x.dealt(-1), 2);
        Check.due("the light one", x.dealt(0), 0);
        Check.due("the heavy one goes with the first as well", x.dealt(1), 0);
    }
}
