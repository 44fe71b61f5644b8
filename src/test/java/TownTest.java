/** Promises 1 to 9: a new object, the text, its faults, what is told. */
public final class TownTest {
    private static final int U = RopePost.UNKNOWN, O = RopePost.OUTSIDE;
    private static final String P = "pole 0 0 1;";

    public static void main(String[] args) {
        newObject();
        feeding();
        fullText();
        goodTexts();
        placeFaults();
        boundFaults();
        countFaults();
        oddsFaults();
        firstAndLeastFaults();
        nothingOfEarlierTexts();
        faultsAtTheVeryEnd();
        townBegins();
        townsBehindOneAnother();
        faultChangesNothing();
        whatIsTold();
        poles();
        ropes();
        boys();
        loads();
        Check.end("TownTest");
    }

    private static void newObject() {
        RopePost x = new RopePost();
        for (int what = 0; what <= 10; what++) {
            Check.due("new told(" + what + ")", x.told(what), 0);
        }
        Check.due("new told(11)", x.told(11), O);
        Check.due("new told(-1)", x.told(-1), O);
        Check.due("new fault", x.fault(), -1);
        Check.due("new pole", x.pole(0, 0), U);
        Check.due("new rope", x.rope(0, 0), U);
        Check.due("new boy", x.boy(0, 0), U);
        Check.due("new load", x.load(0, 0), U);
        Check.due("new seed", x.seed(0), 0);
        Check.due("new goBack", x.goBack(0), RopePost.NOT);
        Check.due("new ring", x.ring(0, 0), -1);
        Check.due("new go", x.go(0, 0), U);
        Check.due("new kept(1)", x.kept(1), U);
        Check.due("new dealt(0)", x.dealt(0), U);
        Check.due("new round", x.round(0, 0), U);
    }

    private static void feeding() {
        RopePost x = new RopePost();
        Check.due("feed 0", x.feed(0, 1), O);
        Check.due("feed 9", x.feed(9, 1), O);
        Check.due("feed -1", x.feed(-1, 1), O);
        Check.due("nothing fed", x.told(4), 0);
        // The low three bytes alone, the highest of these first; what stands above them is not of it.
        Check.due("feed 'pol'", x.feed(3, 0x7a7a7a7a7a706f6cL), 3);
        Check.due("feed 'e0 0 1;'", x.feed(8, 0x65302030_20313b20L), 11);
        Check.due("text", x.told(4), 11);
        Check.due("town", x.town(), 1);
        Check.due("text is empty", x.told(4), 0);
        Check.due("bears", x.pole(0, 2), 1);
    }

    private static void fullText() {
        RopePost x = new RopePost();
        for (int k = 1; k <= 62; k++) {
            Check.due("feed " + k, x.feed(8, 0x2020202020202020L), 8 * k);
        }
        Check.due("feed past 500", x.feed(5, 0x2020202020L), RopePost.FULL);
        Check.due("OUTSIDE ahead of FULL", x.feed(9, 0), O);
        Check.due("still 496", x.told(4), 496);
        Check.due("feed up to 500", x.feed(4, 0x20202020L), 500);
        Check.due("feed one more", x.feed(1, 0x20L), RopePost.FULL);
        Check.due("town of blanks", x.town(), 0);
        Check.due("no fault", x.fault(), -1);
        Check.due("feed again", x.feed(1, 0x20L), 1);
    }

    private static void goodTexts() {
        Check.good("", 0);
        Check.good("   ", 0);
        Check.good(P, 1);
        Check.good("  pole  0   0  1  ;  ", 1);
        Check.good("pole0 0 1;", 1);
        Check.good("pole 000 099 005;", 1);
        Check.good("pole 99 99 5;pole 99 99 1;rope 0 1 99 999;rope1 0 1 1;rope 0 1 1 1;", 2);
        Check.good("pole 0 0 5;boy 0 200 50;boy 0 1 1;boy 0 1 1;boy 0 1 1;", 1);
        Check.good(P + P + "load 0 1 200 999plain;load 1 0 0 0 alive;load 0 1 0 0level ;load 0 1 0 0 long;", 2);
        Check.good(P + P + P + P + P + P + P + P, 8);
        StringBuilder ropes = new StringBuilder(P + P);
        for (int r = 0; r < 12; r++) {
            ropes.append("rope 0 1 1 1;");
        }
        Check.good(ropes.toString(), 2);
    }

    private static void placeFaults() {
        Check.bad("town 1;", 1, 0);
        Check.bad("  pol", 1, 2);
        Check.bad("poles 0 0 1;", 1, 0);
        Check.bad("polez 0 0 1;", 1, 0);
        Check.bad("polea 0 0 1;", 1, 0);
        Check.bad("pole{ 0 0 1;", 1, 4);
        Check.bad("pole` 0 0 1;", 1, 4);
        Check.bad("pole / 0 1;", 1, 5);
        Check.bad("pole : 0 1;", 1, 5);
        Check.bad("mole 0 0 1;", 1, 0);
        Check.bad("polo 0 0 1;", 1, 0);
        Check.bad(P + P + "load 0 1 1 1 slain;", 1, 35);
        Check.bad(P + P + "load 0 1 1 1 song;", 1, 35);
        Check.bad("Pole 0 0 1;", 1, 0);
        Check.bad("poleX 0 0 1;", 1, 4);
        Check.bad("pole", 1, 4);
        Check.bad("pole  ", 1, 6);
        Check.bad("pole 0 0 1", 1, 10);
        Check.bad("pole 0 0 1 ", 1, 11);
        Check.bad("pole 0 0;", 1, 8);
        Check.bad("pole 0 0 1 2;", 1, 11);
        Check.bad("pole 0 0 1 2222;", 1, 11);
        Check.bad("pole 0 0 1a;", 1, 10);
        Check.bad("pole 0 0 1;;", 1, 11);
        Check.bad("pole 0 -1 1;", 1, 7);
        Check.bad("pole 0 a 1;", 1, 7);
        Check.bad(";", 1, 0);
        Check.bad("5", 1, 0);
        Check.bad("po le 0 0 1;", 1, 0);
        Check.bad("polepole 0 0 1;", 1, 0);
        Check.bad("pole\t0 0 1;", 1, 4);
        Check.bad("pole 0 0 1;" + (char) 255, 1, 11);
        Check.bad("pole 0 0 1;" + (char) 0, 1, 11);
        Check.bad(P + P + "load 0 1 1 1 odd;", 1, 35);
        Check.bad(P + P + "load 0 1 1 1 ;", 1, 35);
        Check.bad(P + P + "load 0 1 1 1 plainly;", 1, 35);
        Check.bad(P + P + "load 0 1 1 1 plain", 1, 40);
        Check.bad(P + P + "load 0 1 1 1 long 1;", 1, 40);
        Check.bad(P + P + "load 0 1 1 1 1 long;", 1, 35);
    }

    private static void boundFaults() {
        Check.bad("pole 100 0 1;", 2, 5);
        Check.bad("pole 0 100 1;", 2, 7);
        Check.bad("pole 0 0 0;", 2, 9);
        Check.bad("pole 0 0 6;", 2, 9);
        Check.bad("pole 0001 0 1;", 2, 5);
        Check.bad("pole 4294967296 0 1;", 2, 5);
        Check.bad("pole 0 0 1000", 2, 9);
        Check.bad("rope 0 1 1 1;", 2, 5);
        Check.bad("boy 0 1 1;", 2, 4);
        Check.bad("load 0 1 1 1 plain;", 2, 5);
        Check.bad(P + "rope 0 1 1 1;", 2, 18);
        Check.bad(P + "load 0 1 1 1 plain;", 2, 18);
        Check.bad(P + P + "rope 0 1 0 1;", 2, 31);
        Check.bad(P + P + "rope 0 1 100 1;", 2, 31);
        Check.bad(P + P + "rope 0 1 1 0;", 2, 33);
        Check.bad(P + P + "rope 0 1 1 1000;", 2, 33);
        Check.bad(P + "boy 1 1 1;", 2, 15);
        Check.bad(P + "boy 0 0 1;", 2, 17);
        Check.bad(P + "boy 0 201 1;", 2, 17);
        Check.bad(P + "boy 0 1 0;", 2, 19);
        Check.bad(P + "boy 0 1 51;", 2, 19);
        Check.bad(P + P + "load 0 1 201 1 plain;", 2, 31);
        Check.bad(P + P + "load 0 1 1 1000 plain;", 2, 33);
    }

    private static void countFaults() {
        String eight = P + P + P + P + P + P + P + P;
        Check.bad(eight + P, 3, 88);
        Check.bad(eight + "  pole", 3, 90);
        Check.bad(eight + "poles", 1, 88);
        Check.bad(eight + "pole 1000", 3, 88);
        StringBuilder ropes = new StringBuilder(P + P);
        for (int r = 0; r < 12; r++) {
            ropes.append("rope 0 1 1 1;");
        }
        Check.bad(ropes + "rope", 3, 22 + 12 * 13);
        String boys = "pole 0 0 5;boy 0 1 1;boy 0 1 1;boy 0 1 1;boy 0 1 1;";
        Check.bad(boys + "boy 0 1 1;", 3, boys.length());
        String load = "load 0 1 1 1 long;";
        String loads = P + P + load + load + load + load;
        Check.bad(loads + load, 3, loads.length());
    }

    private static void oddsFaults() {
        Check.bad(P + "rope 0 0 1 1;", 4, 18);
        Check.bad(P + "load 0 0 1 1 plain;", 4, 18);
        Check.bad(P + P + "rope 1   001 1 1;", 4, 31);
        Check.bad(P + "boy 0 1 1;boy 0 1 1;", 4, 25);
        Check.bad("pole 0 0 2;pole 0 0 1;boy 1 1 1;boy 0 1 1;boy 0 1 1;boy 0 1 1;", 4, 56);
    }

    private static void firstAndLeastFaults() {
        Check.bad("pole 100 0 0;x", 2, 5);
        Check.bad(P + "rope 0 0000 1 1;", 2, 18);
        Check.bad(P + "rope 0 0 0 0;", 4, 18);
        Check.bad(P + "boy 0 1 1;boy 0 201 51;", 4, 25);
        Check.bad("pole 0 0 1,pole 0 0 9;", 1, 10);
    }

    private static void again(RopePost x, String text, int answer, int at) {
        Check.feed(x, text);
        Check.due("town of '" + text + "' behind others", x.town(), answer);
        Check.due("its fault", x.fault(), at);
    }

    private static void nothingOfEarlierTexts() {
        RopePost x = new RopePost();
        again(x, "pole 0 0 1;", 1, -1);
        again(x, "pole 0 0 1", -11, 10);
        again(x, "pole 0 0 12", -12, 9);
        again(x, "pole 0 0 1", -11, 10);
        again(x, "pole 0 0 1;pole", -11, 15);
        again(x, "pole 0 0 1;pol", -11, 11);
        again(x, "pole 0 0 1;     x", -11, 16);
        again(x, "pole 0 0 1;   ", 1, -1);
    }

    private static void faultsAtTheVeryEnd() {
        String blanks = " ".repeat(500);
        Check.bad((blanks + "pole 0 0 1").substring(10), 1, 500);
        Check.bad((blanks + "pole 0 0 1 ").substring(11), 1, 500);
        Check.bad((blanks + "pole").substring(4), 1, 500);
        Check.bad((blanks + "pol").substring(3), 1, 497);
        Check.bad((blanks + "pole 0 0 6").substring(10), 2, 499);
        Check.bad((blanks + ";").substring(1), 1, 499);
        Check.good((blanks + P).substring(11), 1);
    }

    private static void townsBehindOneAnother() {
        RopePost x = new RopePost();
        String many = "pole 0 0 5;pole 0 9 5;pole 9 9 5;rope 0 1 9 99;rope 1 2 9 99;rope 0 1 9 99;rope 1 2 9 99;boy 0 9 3;boy 1 9 3;"
            + "load 0 1 1 7 plain;load 1 0 1 7 plain;";
        for (int turn = 0; turn < 3; turn++) {
            again(x, many, 3, -1);
            x.go(0, 0);
            x.pass(1);
        }
        again(x, "pole 0 0 1;pole 0 9 1;pole 0 0 2;rope 0 2 9 99;boy 0 9 3;load 1 0 1 7 plain;", 3, -1);
        int[] told = {3, 1, 1, 1, 0, 0, 0, 0, 0, 0, 1};
        for (int what = 0; what <= 10; what++) {
            Check.due("told(" + what + ") behind others", x.told(what), told[what]);
        }
        Check.due("at a pole", x.boy(0, 1), -1);
        Check.due("no minutes to go", x.boy(0, 2), 0);
        Check.due("no ropes of old", x.kept(3), -1);
        Check.due("no rope of old joins them", x.newRope(0), 0);
        Check.due("nor these", x.newRope(1), 1);
    }

    private static void townBegins() {
        RopePost x = Check.town("pole 0 0 2;pole 0 9 2;rope 0 1 9 99;boy 0 9 3;load 0 1 1 7 plain;");
        x.take(0, 0);
        x.go(0, 0);
        x.pass(3);
        x.wet(0, true);
        x.cut(0);
        x.see(0, 0, 0);
        x.keep(0);
        x.seed(77);
        Check.feed(x, "pole 1 2 3;pole 5 5 1;rope 1 0 2 3;boy 1 4 5;load 1 0 6 7 level;");
        Check.due("next town", x.town(), 2);
        int[] told = {2, 1, 1, 1, 0, 0, 0, 0, 0, 0, 1};
        for (int what = 0; what <= 10; what++) {
            Check.due("next told(" + what + ")", x.told(what), told[what]);
        }
        Check.due("dry", x.rope(0, 5), 0);
        Check.due("no wear", x.rope(0, 4), 0);
        Check.due("boy at home", x.boy(0, 0), 1);
        Check.due("no minutes", x.boy(0, 2), 0);
        Check.due("load told", x.load(0, 0), 1);
        Check.due("load not carried", x.load(0, 5), -1);
        Check.due("images are gone", x.goBack(0), RopePost.NOT);
        Check.due("no ring", x.ring(0, 0), -1);
        Check.due("the seed is not of the town", x.seed(0), 77);
        Check.due("town of nothing", x.town(), 0);
        Check.due("no poles", x.told(0), 0);
    }

    private static void faultChangesNothing() {
        RopePost x = Check.town("pole 0 0 2;pole 0 9 2;rope 0 1 9 99;boy 0 9 3;load 0 1 1 7 plain;");
        x.take(0, 0);
        x.go(0, 0);
        x.pass(1);
        x.see(0, 0, 0);
        x.keep(1);
        Check.feed(x, "pole 7 7 1;pole 0 9 2;rope 0 1 5 1;boy 0 1 1;boy 0 1 1;");
        Check.due("a fault", x.town(), -14);
        Check.due("where", x.fault(), 49);
        int[] told = {2, 1, 1, 1, 0, 1, 0, 0, 1, 1, 1};
        for (int what = 0; what <= 10; what++) {
            Check.due("told(" + what + ") as it was", x.told(what), told[what]);
        }
        Check.due("x as it was", x.pole(0, 0), 0);
        Check.due("rope as it was", x.rope(0, 2), 9);
        Check.due("still on it", x.boy(0, 1), 0);
        Check.due("minutes left", x.boy(0, 2), 2);
        Check.due("image is there", x.goBack(1), 1);
        Check.due("town of nothing", x.town(), 0);
        Check.due("no fault now", x.fault(), -1);
    }

    private static void whatIsTold() {
        RopePost x = Check.town("pole 0 0 2;pole 0 9 2;pole 5 5 1;rope 0 1 9 99;rope 1 0 3 99;"
            + "boy 0 9 3;load 0 1 1 7 plain;load 0 1 1 9 plain;load 1 0 0 1 long;load 0 2 1 1 alive;");
        Check.feed(x, "pole");
        x.take(0, 1);
        x.go(0, 0);
        x.pass(4);
        x.go(0, 1);
        x.see(0, 2, 3);
        x.see(0, 2, 4);
        x.pass(1);
        x.cut(0);
        int[] told = {3, 2, 1, 4, 4, 5, 9, 2, 2, 2, 2};
        for (int what = 0; what <= 10; what++) {
            Check.due("told(" + what + ")", x.told(what), told[what]);
        }
    }

    private static void poles() {
        RopePost x = Check.town("pole 1 2 3;pole 98 99 5;rope 0 1 9 99;boy 1 9 3;boy 0 9 3;boy 1 9 9;"
            + "load 1 0 1 7 plain;load 0 1 1 9 plain;load 1 0 0 1 long;");
        int[][] due = {{1, 2, 3, 2, 2}, {98, 99, 5, 5, 5}};
        for (int p = 0; p < 2; p++) {
            for (int what = 0; what < 5; what++) {
                Check.due("pole(" + p + ", " + what + ")", x.pole(p, what), due[p][what]);
            }
        }
        Check.due("pole(0, 5)", x.pole(0, 5), O);
        Check.due("pole(0, -1)", x.pole(0, -1), O);
        Check.due("pole(2, 5)", x.pole(2, 5), U);
        Check.due("pole(-1, 0)", x.pole(-1, 0), U);
        x.take(2, 0);
        Check.due("what is carried does not lie", x.pole(1, 4), 4);
        x.go(2, 0);
        Check.due("who goes is not there", x.pole(1, 3), 1);
        x.pass(1);
        Check.due("who came is there", x.pole(0, 3), 6);
        Check.due("what is delivered does not lie", x.pole(0, 4), 2);
    }

    private static void ropes() {
        RopePost x = Check.town("pole 0 0 5;pole 0 0 5;pole 0 0 5;rope 0 1 9 99;rope 2 1 98 997;boy 1 9 3;boy 2 39 3;");
        int[][] due = {{0, 1, 9, 99, 0, 0, 1, -1}, {2, 1, 98, 997, 0, 0, 1, -1}};
        for (int r = 0; r < 2; r++) {
            for (int what = 0; what < 8; what++) {
                Check.due("rope(" + r + ", " + what + ")", x.rope(r, what), due[r][what]);
            }
        }
        Check.due("rope(0, 8)", x.rope(0, 8), O);
        Check.due("rope(0, -1)", x.rope(0, -1), O);
        Check.due("rope(2, 8)", x.rope(2, 8), U);
        Check.due("rope(-1, 0)", x.rope(-1, 0), U);
        x.go(1, 1);
        x.wet(1, true);
        x.cut(0);
        Check.due("who is on it", x.rope(1, 7), 1);
        Check.due("wet", x.rope(1, 5), 1);
        Check.due("not whole", x.rope(0, 6), 0);
        x.pass(33);
        Check.due("nobody on it", x.rope(1, 7), -1);
        Check.due("wear", x.rope(1, 4), 4);
    }

    private static void boys() {
        RopePost x = Check.town("pole 0 0 5;pole 0 0 5;rope 0 1 90 99;boy 1 9 3;boy 0 200 50;load 0 1 1 1 long;load 1 0 1 1 level;"
            + "load 1 0 1 1 plain;");
        int[][] due = {{1, -1, 0, 9, 3, 0}, {0, -1, 0, 200, 50, 0}};
        for (int b = 0; b < 2; b++) {
            for (int what = 0; what < 6; what++) {
                Check.due("boy(" + b + ", " + what + ")", x.boy(b, what), due[b][what]);
            }
        }
        Check.due("boy(0, 6)", x.boy(0, 6), O);
        Check.due("boy(0, -1)", x.boy(0, -1), O);
        Check.due("boy(2, 6)", x.boy(2, 6), U);
        Check.due("boy(-1, 0)", x.boy(-1, 0), U);
        x.take(0, 1);
        x.take(0, 2);
        x.go(0, 0);
        x.pass(1);
        int[] gone = {-1, 0, 44, 9, 3, 6};
        for (int what = 0; what < 6; what++) {
            Check.due("boy on a rope " + what, x.boy(0, what), gone[what]);
        }
    }

    private static void loads() {
        RopePost x = Check.town("pole 0 0 5;pole 0 0 5;rope 0 1 9 300;boy 1 9 3;load 0 1 200 999 plain;load 1 0 1 2 alive;"
            + "load 1 0 3 4 level;load 0 1 0 0 long;");
        int[][] due = {{0, 1, 200, 999, 0, -1, 0}, {1, 0, 1, 2, 1, -1, 0}, {1, 0, 3, 4, 2, -1, 0}, {0, 1, 0, 0, 3, -1, 0}};
        for (int l = 0; l < 4; l++) {
            for (int what = 0; what < 7; what++) {
                Check.due("load(" + l + ", " + what + ")", x.load(l, what), due[l][what]);
            }
        }
        Check.due("load(0, 7)", x.load(0, 7), O);
        Check.due("load(0, -1)", x.load(0, -1), O);
        Check.due("load(4, 7)", x.load(4, 7), U);
        Check.due("load(-1, 0)", x.load(-1, 0), U);
        x.take(0, 1);
        Check.due("carried: lies nowhere", x.load(1, 0), -1);
        Check.due("carried by", x.load(1, 5), 0);
        Check.due("not delivered", x.load(1, 6), 0);
        x.go(0, 0);
        x.pass(3);
        Check.due("delivered: lies nowhere", x.load(1, 0), -1);
        Check.due("delivered: nobody carries it", x.load(1, 5), -1);
        Check.due("delivered", x.load(1, 6), 1);
    }
}
