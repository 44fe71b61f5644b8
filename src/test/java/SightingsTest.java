/** Promises 24 to 29: odds, pays, see, forget, who, judge. */
public final class SightingsTest {
    private static final int U = RopePost.UNKNOWN, O = RopePost.OUTSIDE, NONE = RopePost.NONE;
    private static final String LINE = "pole 0 0 5;pole 0 10 5;pole 0 20 5;pole 99 0 5;rope 0 1 10 50;rope 1 2 10 50;"
        + "boy 0 9 5;boy 2 9 10;boy 0 51 50;load 0 2 1 100 plain;load 0 2 1 7 plain;load 0 2 1 999 plain;";

    public static void main(String[] args) {
        odds();
        pays();
        paysByFar();
        seeing();
        who();
        whoByMinutes();
        whoByRopesAsTheyAre();
        judge();
        judgeByRopes();
        Check.end("SightingsTest");
    }

    private static void odds() {
        RopePost x = Check.town("pole 0 0 5;pole 30 20 5;pole 99 99 5;pole 0 0 5;");
        Check.due("no pole", x.odds(4, 0, 0), U);
        Check.due("no other", x.odds(0, 4, 0), U);
        Check.due("-1", x.odds(-1, 0, 0), U);
        Check.due("other -1", x.odds(0, -1, 0), U);
        Check.due("one twice", x.odds(1, 1, 0), U);
        Check.due("unknown ahead of outside", x.odds(1, 1, 100), U);
        Check.due("wind 100", x.odds(0, 1, 100), O);
        Check.due("wind -1", x.odds(0, 1, -1), O);
        Check.due("no wind", x.odds(0, 1, 0), 50);
        Check.due("back", x.odds(1, 0, 0), 50);
        Check.due("wind", x.odds(0, 1, 49), 1);
        Check.due("wind 50", x.odds(0, 1, 50), 0);
        Check.due("wind 99", x.odds(0, 1, 99), 0);
        Check.due("too far", x.odds(0, 2, 0), 0);
        Check.due("at one place", x.odds(0, 3, 0), 100);
        Check.due("at one place in wind", x.odds(0, 3, 99), 1);
    }

    private static void pays() {
        RopePost x = Check.town(LINE);
        Check.due("no load", x.pays(3, 0, 0, 1, 0, 0), U);
        Check.due("load -1", x.pays(-1, 0, 0, 1, 0, 0), U);
        Check.due("no boy", x.pays(0, 3, 0, 1, 0, 0), U);
        Check.due("boy -1", x.pays(0, -1, 0, 1, 0, 0), U);
        Check.due("no pole", x.pays(0, 0, 4, 1, 0, 0), U);
        Check.due("no other", x.pays(0, 0, 0, 4, 0, 0), U);
        Check.due("pole -1", x.pays(0, 0, -1, 1, 0, 0), U);
        Check.due("other -1", x.pays(0, 0, 0, -1, 0, 0), U);
        Check.due("one twice", x.pays(0, 0, 1, 1, 0, 0), U);
        Check.due("unknown ahead of outside", x.pays(3, 0, 0, 1, 100, 0), U);
        Check.due("wind 100", x.pays(0, 0, 0, 1, 100, 0), O);
        Check.due("wind -1", x.pays(0, 0, 0, 1, -1, 0), O);
        Check.due("c 100", x.pays(0, 0, 0, 1, 0, 100), O);
        Check.due("c -1", x.pays(0, 0, 0, 1, 0, -1), O);
    }

    private static void paysByFar() {
        RopePost x = Check.town(LINE);
        // Feet 20, far 4: what is lost of 100 is 20, by wind 3 it is 23.
        Check.due("20 to 20", x.pays(0, 0, 0, 2, 0, 5), 0);
        Check.due("20 to 24", x.pays(0, 0, 0, 2, 0, 6), 1);
        Check.due("23 to 24", x.pays(0, 0, 0, 2, 3, 6), 1);
        Check.due("24 to 24", x.pays(0, 0, 0, 2, 4, 6), 0);
        // Of 7 a tenth is nothing: cut.
        Check.due("0 to 2", x.pays(1, 0, 0, 1, 0, 1), 1);
        Check.due("0 to 0", x.pays(1, 0, 0, 1, 0, 0), 0);
        Check.due("all of 999 to 396", x.pays(2, 0, 0, 2, 99, 99), 0);
        Check.due("1 to 2", x.pays(1, 0, 0, 1, 10, 1), 1);
        Check.due("no far, odds 1", x.pays(2, 0, 0, 3, 0, 0), 1);
        Check.due("no far, odds 0", x.pays(2, 0, 0, 3, 1, 99), 0);
        Check.due("no far: the ropes do not carry him", x.pays(0, 2, 0, 1, 0, 0), 1);
        x.wet(0, true);
        Check.due("wet: 20 to 30", x.pays(0, 0, 0, 2, 0, 5), 1);
    }

    private static void seeing() {
        RopePost x = Check.town(LINE);
        Check.due("no boy", x.see(3, 0, 0), U);
        Check.due("boy -1", x.see(-1, 0, 0), U);
        Check.due("no pole", x.see(0, 4, 0), U);
        Check.due("pole -1", x.see(0, -1, 0), U);
        Check.due("unknown ahead of outside", x.see(0, 4, -1), U);
        Check.due("minute -1", x.see(0, 0, -1), O);
        Check.due("minute 10000", x.see(0, 0, 10000), O);
        Check.due("none yet", x.told(9), 0);
        Check.due("nothing to forget", x.forget(), 0);
        for (int k = 1; k <= 20; k++) {
            Check.due("sighting", x.see(k & 1, 0, k == 20 ? 9999 : k - 1), k);
        }
        Check.due("full", x.see(0, 0, 5), RopePost.FULL);
        Check.due("outside ahead of full", x.see(0, 0, 10000), O);
        Check.due("unknown ahead of full", x.see(0, 4, 5), U);
        Check.due("twenty", x.told(9), 20);
        Check.due("forget", x.forget(), 20);
        Check.due("forgotten", x.told(9), 0);
        Check.due("again", x.forget(), 0);
        Check.due("new ones", x.see(0, 0, 5), 1);
    }

    private static void who() {
        RopePost x = Check.town(LINE);
        Check.due("no pole", x.who(4, 0), U);
        Check.due("pole -1", x.who(-1, 0), U);
        Check.due("unknown ahead of outside", x.who(4, -1), U);
        Check.due("minute -1", x.who(0, -1), O);
        Check.due("minute 10000", x.who(0, 10000), O);
        Check.due("at 0", x.who(0, 0), 5);
        Check.due("at 0 there", x.who(2, 0), 2);
        Check.due("at 1", x.who(1, 1), 2);
        Check.due("at 2", x.who(1, 2), 3);
        Check.due("at 3", x.who(2, 3), 2);
        Check.due("at 4", x.who(2, 4), 3);
        Check.due("at last", x.who(2, 9999), 3);
        Check.due("not joined", x.who(3, 9999), 0);
        Check.due("home", x.who(0, 9999), 7);
        x.go(0, 0);
        x.pass(2);
        Check.due("from where he was told, not where he is", x.who(0, 0), 5);
    }

    private static void whoByMinutes() {
        RopePost x = Check.town(LINE);
        x.see(0, 2, 20);
        x.see(0, 0, 10);
        Check.due("ahead of both", x.who(1, 8), 3);
        Check.due("too late for the first", x.who(1, 9), 2);
        Check.due("to be back in time", x.who(2, 6), 3);
        Check.due("not back in time", x.who(2, 7), 2);
        Check.due("at the sighting", x.who(0, 10), 7);
        Check.due("elsewhere at the sighting", x.who(1, 10), 2);
        Check.due("between", x.who(1, 12), 3);
        Check.due("between, too soon", x.who(1, 11), 2);
        Check.due("between, last", x.who(1, 18), 3);
        Check.due("between, too late", x.who(1, 19), 2);
        Check.due("behind both", x.who(0, 24), 7);
        Check.due("behind both, too soon", x.who(0, 23), 6);
        // Told a second time at one minute: the later told is the last ahead, the first told the first behind.
        x.see(0, 1, 20);
        Check.due("the last of one minute", x.who(1, 20), 3);
        Check.due("so not the other", x.who(2, 20), 2);
        Check.due("from the last", x.who(0, 22), 7);
        Check.due("to the first", x.who(1, 18), 3);
        Check.due("to the first, too late", x.who(1, 19), 2);
        x.forget();
        Check.due("forgotten", x.who(1, 9), 3);
    }

    private static void whoByRopesAsTheyAre() {
        RopePost x = Check.town(LINE);
        x.wet(0, true);
        Check.due("none of them wet", x.who(1, 2), 3);
        x.cut(0);
        Check.due("cut", x.who(1, 9), 2);
        x.see(0, 1, 5);
        Check.due("sighted all the same", x.who(1, 5), 3);
        Check.due("but could not come to it", x.who(0, 4), 4);
        x.splice(0);
        Check.due("spliced", x.who(0, 3), 7);
    }

    private static void judge() {
        RopePost x = Check.town(LINE);
        Check.due("nothing seen", x.judge(), NONE);
        x.see(0, 1, 2);
        Check.due("just there", x.judge(), NONE);
        x.see(1, 2, 0);
        x.see(1, 0, 2);
        x.see(0, 0, 4);
        Check.due("all that can be", x.judge(), NONE);
        x.see(0, 2, 7);
        Check.due("too soon", x.judge(), 4);
        x.see(1, 0, 1);
        Check.due("the first of them", x.judge(), 4);
        x.forget();
        x.see(1, 0, 1);
        Check.due("from his pole at 0", x.judge(), 0);
        x.forget();
        x.see(0, 0, 9);
        x.see(0, 0, 9);
        Check.due("at once", x.judge(), NONE);
        x.see(0, 0, 8);
        Check.due("as told: its minute is less", x.judge(), 2);
        x.forget();
        x.see(0, 0, 50);
        x.see(1, 2, 10);
        x.see(2, 0, 0);
        Check.due("each boy for himself", x.judge(), NONE);
        x.see(2, 1, 9999);
        Check.due("not carried", x.judge(), 3);
    }

    private static void judgeByRopes() {
        RopePost x = Check.town(LINE);
        x.see(0, 1, 2);
        x.wet(0, true);
        Check.due("none of them wet, as in who", x.judge(), NONE);
        x.cut(0);
        Check.due("as they are now", x.judge(), 0);
        x.splice(0);
        Check.due("as they are again", x.judge(), NONE);
    }
}
