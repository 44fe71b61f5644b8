import java.util.List;

/** The edges of promises 2 to 4: the text, its bounds and its faults. Each method holds the words that it begins with. */
public final class EdgeTextTest {
    private static final String P = "pole 0 0 1;", FIVE = "pole 0 0 5;";
    private static final int O = RopePost.OUTSIDE, FULL = RopePost.FULL, NONE = RopePost.NONE;

    public static void main(String[] args) {
        feedOneToEight();
        feedHighestFirst();
        feedFull();
        feedBehindTown();
        wholeTextIsRead();
        poleBounds();
        ropeBounds();
        boyBounds();
        loadBounds();
        figures();
        polesToldAhead();
        counts();
        signsBetweenClauses();
        signsBehindWords();
        signsBehindNumbers();
        signsInWords();
        blanksAnywhere();
        blanksNeeded();
        onlyBlankIsBlank();
        endOfText();
        endInBlanks();
        wordsThatCannot();
        leastFault();
        firstFault();
        likePoles();
        fullPoles();
        townOfNothing();
        townIsNew();
        lesserTowns();
        faultLeavesAll();
        faultOfLatest();
        Check.end("EdgeTextTest");
    }

    private static String repeat(String text, int times) {
        return text.repeat(times);
    }

    // ---- feed

    private static void feedOneToEight() {
        Check.sentence("Up to eight bytes (n 1 .. 8)");
        for (int n : new int[] {0, -1, -8, Integer.MIN_VALUE, 9, 10, 64, Integer.MAX_VALUE}) {
            Twins.refused("feed(" + n + ", ..)", x -> Check.feed(x, P), x -> x.feed(n, Check.bytes(P.substring(0, 8))), O);
            Twins.refused("feed(" + n + ", ..) of no text", x -> x.fault(), x -> x.feed(n, 0x3b3b3b3b3b3b3b3bL), O);
        }
        for (int n = 1; n <= 8; n++) {
            RopePost x = new RopePost();
            Check.due("feed(" + n + ", ..)", x.feed(n, 0x2020202020202020L), n);
            Check.due("feed(" + n + ", ..) again", x.feed(n, 0x2020202020202020L), 2 * n);
            Check.due("told(4)", x.told(4), 2 * n);
        }
    }

    private static void feedHighestFirst() {
        Check.sentence("of a long, the highest of these first, come behind THE TEXT: how many it has");
        String text = "pole 12 34 5;pole 67 89 1;rope 0 1 23 456;";
        for (int n = 1; n <= 8; n++) {
            RopePost x = new RopePost();
            for (int at = 0; at < text.length(); at += n) {
                int more = Math.min(n, text.length() - at);
                // What stands above the told bytes is not of it, be it all ones.
                long above = more == 8 ? 0 : -1L << 8 * more;
                Check.due("feed", x.feed(more, above | Check.bytes(text.substring(at, at + more))), at + more);
            }
            Check.due("town by " + n, x.town(), 2);
            Check.due("Y", x.pole(0, 1), 34);
            Check.due("X", x.pole(1, 0), 67);
            Check.due("C", x.rope(0, 3), 456);
        }
        RopePost x = new RopePost();
        x.feed(8, -1L);
        Check.due("bytes above 127 cannot stand there", x.town(), -11);
        x.feed(8, Long.MIN_VALUE);
        Check.due("nor the lowest of them", x.town(), -11);
        Check.due("the highest byte is the first", x.fault(), 0);
    }

    private static void feedFull() {
        Check.sentence("FULL (500)");
        for (int n = 1; n <= 8; n++) {
            int size = n;
            RopePost x = new RopePost();
            Check.feed(x, repeat(" ", 500 - n));
            Check.due("bytes", x.told(4), 500 - n);
            Check.due("feed(" + n + ", ..) up to 500", x.feed(n, 0x2020202020202020L), 500);
            Check.due("town of 500 blanks", x.town(), 0);
            Twins.refused("feed(" + n + ", ..) up to 501", y -> Check.feed(y, P + repeat(" ", 490 - size)),
                y -> y.feed(size, 0x3b3b3b3b3b3b3b3bL), FULL);
            Twins.refused("feed(" + n + ", ..) behind 500", y -> Check.feed(y, P + repeat(" ", 489)),
                y -> y.feed(size, 0x2020202020202020L), FULL);
        }
        Check.sentence("of several the first in this order: OUTSIDE, FULL");
        Twins.refused("feed(9, ..) behind 500", y -> Check.feed(y, repeat(" ", 500)), y -> y.feed(9, 0), O);
        Twins.refused("feed(0, ..) behind 500", y -> Check.feed(y, repeat(" ", 500)), y -> y.feed(0, 0), O);
    }

    private static void feedBehindTown() {
        Check.sentence("THE TEXT (it is empty then)");
        RopePost x = new RopePost();
        Check.feed(x, repeat(" ", 500));
        x.town();
        Check.due("no bytes", x.told(4), 0);
        Check.due("feed behind a full text", x.feed(1, 'x'), 1);
        Check.due("town with a fault", x.town(), -11);
        Check.due("no bytes behind a fault", x.told(4), 0);
        Check.due("feed behind a fault", x.feed(2, 0), 2);
    }

    private static void wholeTextIsRead() {
        Check.sentence("a text (500 bytes at most)");
        Check.good(repeat(" ", 489) + P, 1);
        Check.bad(repeat(" ", 499) + "x", 1, 499);
        Check.bad(repeat(" ", 490) + "pole 0 0 1", 1, 500);
        Check.bad(repeat(" ", 490) + "pole 0 0 6", 2, 499);
    }

    // ---- the bounds of numbers

    private interface Ask {
        int of(RopePost x);
    }

    /** A number between head and tail: good from low to high, with fault 2 at its first figure beyond. */
    private static void bounds(String head, String tail, int low, int high, Ask ask) {
        for (int number : new int[] {low, low + 1, high - 1, high}) {
            RopePost x = Check.town(head + number + tail);
            Check.due("fault of " + head + number + tail, x.fault(), NONE);
            Check.due("number of " + head + number + tail, ask.of(x), number);
        }
        if (low > 0) {
            Check.bad(head + (low - 1) + tail, 2, head.length());
        }
        Check.bad(head + (high + 1) + tail, 2, head.length());
        Check.bad(head + "9999999999" + tail, 2, head.length());
        Check.bad(head + ";", 1, head.length());
        Check.bad(head + "-1" + tail, 1, head.length());
    }

    private static void poleBounds() {
        Check.sentence("at X, Y, 0 .. 99 both");
        bounds("pole ", " 7 3;", 0, 99, x -> x.pole(0, 0));
        bounds("pole 7 ", " 3;", 0, 99, x -> x.pole(0, 1));
        Check.sentence("BEARS B boys, 1 .. 5");
        bounds("pole 7 8 ", ";", 1, 5, x -> x.pole(0, 2));
    }

    private static void ropeBounds() {
        Check.sentence("L feet long, 1 .. 99");
        bounds(P + P + "rope 0 1 ", " 7;", 1, 99, x -> x.rope(0, 2));
        Check.sentence("CARRIES C pounds, 1 .. 999");
        bounds(P + P + "rope 0 1 7 ", ";", 1, 999, x -> x.rope(0, 3));
    }

    private static void boyBounds() {
        Check.sentence("W pounds, 1 .. 200");
        bounds(P + "boy 0 ", " 7;", 1, 200, x -> x.boy(0, 3));
        Check.sentence("PACE S feet a minute, 1 .. 50");
        bounds(P + "boy 0 7 ", ";", 1, 50, x -> x.boy(0, 4));
    }

    private static void loadBounds() {
        Check.sentence("W pounds, 0 .. 200");
        bounds(P + P + "load 0 1 ", " 7 plain;", 0, 200, x -> x.load(0, 2));
        Check.sentence("WORTH V 0 .. 999");
        bounds(P + P + "load 0 1 7 ", " long;", 0, 999, x -> x.load(0, 3));
        Check.sentence("KIND 'plain' 'alive' 'level' 'long', numbered so");
        String[] kinds = {"plain", "alive", "level", "long"};
        for (int k = 0; k < 4; k++) {
            Check.due(kinds[k], Check.town(P + P + "load 0 1 7 8 " + kinds[k] + ";").load(0, 4), k);
        }
    }

    private static void figures() {
        Check.sentence("NUMBERS have one to three figures");
        Check.due("one", Check.town("pole 7 0 1;").pole(0, 0), 7);
        Check.due("two", Check.town("pole 07 0 1;").pole(0, 0), 7);
        Check.due("three", Check.town("pole 007 0 1;").pole(0, 0), 7);
        Check.due("three noughts", Check.town("pole 000 0 1;").pole(0, 0), 0);
        Check.sentence("2 a NUMBER of four figures or more");
        Check.bad("pole 0007 0 1;", 2, 5);
        Check.bad("pole 0000 0 1;", 2, 5);
        Check.bad("pole 7 00007 1;", 2, 7);
        Check.bad("pole 7 8 0001;", 2, 9);
        Check.bad("pole 4294967296 0 1;", 2, 5);
        Check.bad("pole 18446744073709551617 0 1;", 2, 5);
        Check.bad(P + P + "rope 0000 1 1 1;", 2, 27);
        Check.bad(P + P + "rope 0 0001 1 1;", 2, 29);
        Check.bad(P + P + "rope 0 1 0001 1;", 2, 31);
        Check.bad(P + P + "rope 0 1 1 0001;", 2, 33);
        Check.bad(P + "boy 0000 1 1;", 2, 15);
        Check.bad(P + "boy 0 0001 1;", 2, 17);
        Check.bad(P + "boy 0 1 0001;", 2, 19);
        Check.bad(P + P + "load 0000 1 1 1 long;", 2, 27);
        Check.bad(P + P + "load 0 0001 1 1 long;", 2, 29);
        Check.bad(P + P + "load 0 1 0001 1 long;", 2, 31);
        Check.bad(P + P + "load 0 1 1 0001 long;", 2, 33);
    }

    private static void polesToldAhead() {
        Check.sentence("a POLE that was not told yet (at its first)");
        for (int poles = 0; poles <= 8; poles++) {
            String ahead = repeat(FIVE, poles);
            int at = ahead.length() + 5;
            Check.bad(ahead + "rope " + poles + " 0 1 1;", 2, at);
            Check.bad(ahead + "boy " + poles + " 1 1;", 2, at - 1);
            Check.bad(ahead + "load " + poles + " 0 1 1 long;", 2, at);
            // Told behind it does not help.
            Check.bad(ahead + "boy " + poles + " 1 1;" + P, 2, at - 1);
            if (poles > 0) {
                Check.bad(ahead + "rope 0 " + poles + " 1 1;", 2, at + 2);
                Check.bad(ahead + "load 0 " + poles + " 1 1 long;", 2, at + 2);
                Check.due("the last told", Check.town(ahead + "boy " + (poles - 1) + " 1 1;").boy(0, 0), poles - 1);
            }
            if (poles > 1) {
                RopePost x = Check.town(ahead + "rope " + (poles - 1) + " 0 1 1;rope 0 " + (poles - 1) + " 1 1;load "
                    + (poles - 1) + " 0 1 1 long;load 0 " + (poles - 1) + " 1 1 long;");
                Check.due("a rope from the last told", x.rope(0, 0), poles - 1);
                Check.due("a rope to the last told", x.rope(1, 1), poles - 1);
                Check.due("a load from the last told", x.load(0, 0), poles - 1);
                Check.due("a load to the last told", x.load(1, 1), poles - 1);
            }
        }
        Check.bad(P + "boy 999 1 1;", 2, 15);
    }

    private static void counts() {
        Check.sentence("8 POLES at most; 3 a ninth POLE (at its first letter)");
        count("", P, 8, 0);
        Check.sentence("12 ROPES at most, several between two as may be; 3 a 13th ROPE");
        count(P + P, "rope 0 1 1 1;", 12, 1);
        count(P + P, "rope 1 0 1 1;", 12, 1);
        Check.sentence("4 BOYS at most; 3 a fifth BOY");
        count(FIVE, "boy 0 1 1;", 4, 2);
        Check.sentence("4 LOADS at most; 3 a fifth LOAD");
        count(P + P, "load 0 1 1 1 long;", 4, 3);
        Check.sentence("THE TOWN at its fullest");
        RopePost x = Check.town(repeat(FIVE, 8) + repeat("rope 6 7 1 1;", 12) + repeat("boy 7 1 1;", 4) + repeat("load 6 7 1 1 long;", 4));
        int[] due = {8, 12, 4, 4};
        for (int what = 0; what < 4; what++) {
            Check.due("told(" + what + ")", x.told(what), due[what]);
        }
    }

    private static void count(String ahead, String clause, int most, int what) {
        String full = ahead + repeat(clause, most);
        Check.due("at most", Check.town(full).told(what), most);
        Check.due("one less", Check.town(ahead + repeat(clause, most - 1)).told(what), most - 1);
        Check.bad(full + clause, 3, full.length());
        Check.bad(full + "  " + clause + P, 3, full.length() + 2);
        String word = clause.substring(0, clause.indexOf(' '));
        Check.bad(full + word, 3, full.length());
        Check.bad(full + word + " 1000", 3, full.length());
        Check.bad(full + word + "?", 3, full.length());
        Check.bad(full + word + "x", 1, full.length());
    }

    // ---- signs

    private static boolean isLetter(int sign) {
        return sign >= 'a' && sign <= 'z';
    }

    private static boolean isFigure(int sign) {
        return sign >= '0' && sign <= '9';
    }

    private static void signsBetweenClauses() {
        Check.sentence("1 it cannot stand there");
        for (int sign = 0; sign < 256; sign++) {
            String text = P + (char) sign + P;
            if (sign == ' ') {
                Check.good(text, 2);
            } else {
                Check.bad(text, 1, P.length());
            }
        }
    }

    private static void signsBehindWords() {
        Check.sentence("words are letters a .. z side by side");
        for (int sign = 0; sign < 256; sign++) {
            String text = "pole" + (char) sign + "0 0 1;";
            if (sign == ' ' || isFigure(sign)) {
                Check.good(text, 1);
            } else {
                Check.bad(text, 1, isLetter(sign) ? 0 : 4);
            }
            String kind = P + P + "load 0 1 1 1 long" + (char) sign;
            if (sign == ';') {
                Check.good(kind, 2);
            } else {
                Check.bad(kind, 1, isLetter(sign) ? 35 : sign == ' ' ? 40 : 39);
            }
        }
    }

    private static void signsBehindNumbers() {
        Check.sentence("NUMBERS have one to three figures; 1 it cannot stand there");
        for (int sign = 0; sign < 256; sign++) {
            String text = "pole 0 0 1" + (char) sign;
            if (sign == ';') {
                Check.good(text, 1);
            } else if (isFigure(sign)) {
                Check.bad(text, 2, 9);
            } else {
                Check.bad(text, 1, sign == ' ' ? 11 : 10);
            }
            String inside = "pole 1" + (char) sign + "0 1;";
            if (sign == ' ') {
                Check.good(inside, 1);
            } else if (isFigure(sign)) {
                Check.bad(inside, 2, 5);
            } else {
                Check.bad(inside, 1, 6);
            }
        }
    }

    private static void signsInWords() {
        Check.sentence("a word that cannot: at its first letter");
        String[] words = {"pole", "rope", "boy", "load"};
        String[] rests = {" 0 0 1;", " 0 1 1 1;", " 0 1 1;", " 0 1 1 1 long;"};
        for (int k = 0; k < 4; k++) {
            String word = words[k];
            Check.due(word, Check.town(P + P + word + rests[k]).fault(), NONE);
            for (int at = 0; at < word.length(); at++) {
                for (int sign = 'a'; sign <= 'z'; sign++) {
                    if (sign != word.charAt(at)) {
                        Check.bad(P + P + word.substring(0, at) + (char) sign + word.substring(at + 1) + rests[k], 1, 22);
                    }
                }
                Check.bad(P + P + word.substring(0, at) + word.substring(at + 1) + rests[k], 1, 22);
            }
            Check.bad(P + P + word.toUpperCase() + rests[k], 1, 22);
        }
        for (String kind : new String[] {"plain", "alive", "level", "long"}) {
            for (int at = 0; at < kind.length(); at++) {
                Check.bad(P + P + "load 0 1 1 1 " + kind.substring(0, at) + "x" + kind.substring(at + 1) + ";", 1, 35);
                Check.bad(P + P + "load 0 1 1 1 " + kind.substring(0, at) + kind.substring(at + 1) + ";", 1, 35);
            }
            Check.bad(P + P + "load 0 1 1 1 " + kind + "s;", 1, 35);
            Check.bad(P + P + "load 0 1 1 1 " + kind.toUpperCase() + ";", 1, 35);
        }
    }

    private static final String ALL = "pole 10 10 5;pole 20 20 5;rope 0 1 10 10;boy 0 10 10;load 0 1 10 10 plain;";

    private static void blanksAnywhere() {
        Check.sentence("blanks (32) may stand anywhere but within words and NUMBERS");
        for (int at = 0; at <= ALL.length(); at++) {
            String text = ALL.substring(0, at) + "   " + ALL.substring(at);
            boolean inside = at > 0 && at < ALL.length() && within(ALL.charAt(at - 1), ALL.charAt(at));
            RopePost x = new RopePost();
            Check.feed(x, text);
            int answer = x.town();
            Check.due("town of '" + text + "'", inside ? answer < -10 ? 1 : 0 : answer, inside ? 1 : 2);
        }
        Check.bad("po le 0 0 1;", 1, 0);
        Check.bad("pole 0 0 1 0;", 1, 11);
        Check.bad(P + P + "load 0 1 1 1 pla in;", 1, 35);
        Check.good(repeat(" ", 400) + P, 1);
    }

    private static boolean within(char left, char right) {
        return isLetter(left) && isLetter(right) || isFigure(left) && isFigure(right);
    }

    private static void blanksNeeded() {
        Check.sentence("two words, two NUMBERS side by side need one");
        Check.bad("polepole 0 0 1;", 1, 0);
        Check.bad(P + "boyboy 0 1 1;", 1, 11);
        Check.bad(P + P + "load 0 1 1 1 plainlong;", 1, 35);
        Check.bad("pole 00 1;", 1, 9);
        Check.bad("pole 0 01;", 1, 9);
        Check.bad(P + "boy 01 1;", 2, 15);
        // A word and a NUMBER need none.
        Check.good("pole0 0 1;", 1);
        Check.good(P + "boy0 1 1;", 1);
        Check.good(P + P + "rope0 1 1 1;load0 1 1 1long;", 2);
    }

    private static void onlyBlankIsBlank() {
        Check.sentence("blanks (32)");
        for (int sign : new int[] {9, 10, 13, 31, 33, 160}) {
            Check.bad("pole" + (char) sign + "0 0 1;", 1, 4);
            Check.bad((char) sign + P, 1, 0);
            Check.bad(P + (char) sign, 1, 11);
        }
    }

    private static void endOfText() {
        Check.sentence("FAULTS, at the first byte that has one (the end at the text's length)");
        for (int n = 0; n < ALL.length(); n++) {
            String text = ALL.substring(0, n);
            if (n == 0 || text.charAt(n - 1) == ';') {
                RopePost x = new RopePost();
                Check.feed(x, text);
                Check.due("town of '" + text + "'", x.town() >= 0 ? 1 : 0, 1);
                Check.due("fault of '" + text + "'", x.fault(), NONE);
            } else {
                Check.bad(text, 1, startOfUnendedWord(text, n));
            }
        }
    }

    /** Where a word is cut off, its first letter; else the end. */
    private static int startOfUnendedWord(String text, int n) {
        boolean unended = isLetter(text.charAt(n - 1)) && isLetter(ALL.charAt(n));
        int at = n;
        while (unended && at > 0 && isLetter(text.charAt(at - 1))) {
            at--;
        }
        return at;
    }

    private static void endInBlanks() {
        Check.sentence("the end at the text's length");
        String[] heads = {"pole", "pole 0", "pole 0 0", "pole 0 0 1", P + "boy", P + "boy 0", P + P + "load 0 1 1 1", P + P + "load 0 1 1 1 long"};
        for (String head : heads) {
            Check.bad(head, 1, head.length());
            Check.bad(head + " ", 1, head.length() + 1);
            Check.bad(head + "   ", 1, head.length() + 3);
        }
    }

    private static void wordsThatCannot() {
        Check.sentence("1 it cannot stand there (a word that cannot: at its first letter)");
        Check.bad("pole pole", 1, 5);
        Check.bad("pole 0 rope", 1, 7);
        Check.bad("pole 0 0 boy", 1, 9);
        Check.bad("pole 0 0 1 load", 1, 11);
        Check.bad("pole 0 0 1load", 1, 10);
        Check.bad("plain", 1, 0);
        Check.bad(P + "alive 0 1 1;", 1, 11);
        Check.bad(P + P + "load 0 1 1 1 pole;", 1, 35);
        Check.bad(P + P + "load 0 1 1 plain;", 1, 33);
        Check.bad(P + P + "load 0 1 1 1 plain plain;", 1, 41);
        Check.bad(P + P + "rope 0 1 1 1 plain;", 1, 35);
        Check.bad("7 pole 0 0 1;", 1, 0);
        Check.bad("pole 0 0 1 7;", 1, 11);
        Check.bad("pole 0 0;", 1, 8);
        Check.bad("pole;", 1, 4);
        Check.bad(";" + P, 1, 0);
        Check.bad(P + ";", 1, 11);
    }

    private static void leastFault() {
        Check.sentence("at the first byte that has one, of these the least");
        // 1 and 2 at one byte: a number of four figures where none can stand.
        Check.bad("1000", 1, 0);
        Check.bad("pole 0 0 1 1000;", 1, 11);
        Check.bad(P + P + "load 0 1 1 1 1000;", 1, 35);
        // 1 and 3 at one byte: a ninth pole, a fifth boy where no word can stand.
        Check.bad(repeat(P, 8) + "rope pole 0 0 1;", 1, 93);
        Check.bad(repeat(P, 7) + "pole 0 0 1 pole 0 0 1;", 1, 88);
        Check.bad(FIVE + repeat("boy 0 1 1;", 4) + "pole boy 0 1 1;", 1, 56);
        // 2 and 4 at one byte: Q like P, B like A, a full pole, each by a number of four figures.
        Check.bad(P + "rope 0 0000 1 1;", 2, 18);
        Check.bad(P + "load 0 0000 1 1 long;", 2, 18);
        Check.bad(P + "boy 0 1 1;boy 0000 1 1;", 2, 25);
    }

    private static void firstFault() {
        Check.sentence("FAULTS, at the first byte that has one");
        Check.bad("pole 100 0 0 x", 2, 5);
        Check.bad("pole 0 100 0 x", 2, 7);
        Check.bad("pole 0 0 6 x", 2, 9);
        Check.bad(P + "rope 0 0 0 1000 x", 4, 18);
        Check.bad(P + "boy 0 1 1;boy 0 0 0", 4, 25);
        Check.bad(repeat(P, 8) + "pole 100 x", 3, 88);
        Check.bad(P + P + "rope 9 9 0 0 x", 2, 27);
        Check.bad(P + P + "rope 0 1 0 1000", 2, 31);
        Check.bad(P + "boy 0 201 51;", 2, 17);
        Check.bad(P + P + "load 0 1 201 1000 odd", 2, 31);
        Check.bad(P + P + "load 0 1 200 1000 odd", 2, 35);
        Check.bad("x pole 100 0 1;", 1, 0);
    }

    private static void likePoles() {
        Check.sentence("4 Q like P, B like A (at it)");
        for (int p = 0; p < 8; p++) {
            String ahead = repeat(P, 8);
            Check.bad(ahead + "rope " + p + " " + p + " 1 1;", 4, 95);
            Check.bad(ahead + "rope " + p + "   00" + p + " 1 1;", 4, 97);
            Check.bad(ahead + "load " + p + " " + p + " 1 1 long;", 4, 95);
            Check.bad(ahead + "load " + p + "   00" + p + " 1 1 long;", 4, 97);
            int other = (p + 1) % 8;
            Check.good(ahead + "rope " + p + " " + other + " 1 1;load " + p + " " + other + " 1 1 long;", 8);
        }
    }

    private static void fullPoles() {
        Check.sentence("at POLE P, which BEARS one more; 4 a POLE that BEARS no more boys (at the P)");
        for (int bears = 1; bears <= 5; bears++) {
            String ahead = "pole 0 0 5;pole 0 0 " + bears + ";";
            for (int boys = 1; boys <= 4; boys++) {
                String text = ahead + repeat("boy 1 1 1;", boys);
                if (boys <= bears) {
                    Check.due("boys at a pole that bears " + bears, Check.town(text).pole(1, 3), (1 << boys) - 1);
                } else {
                    Check.bad(text, 4, ahead.length() + 10 * bears + 4);
                }
            }
        }
        // Another pole's boys are not of it.
        Check.good("pole 0 0 1;pole 0 0 1;boy 0 1 1;boy 1 1 1;", 2);
        Check.bad("pole 0 0 1;pole 0 0 1;boy 0 1 1;boy 1 1 1;boy   000 1 1;", 4, 48);
        // The town that stands is not of it either.
        RopePost x = Check.town("pole 0 0 1;boy 0 1 1;");
        Check.feed(x, "pole 0 0 1;boy 0 1 1;");
        Check.due("the same town again", x.town(), 1);
    }

    // ---- town and fault

    private static void townOfNothing() {
        Check.sentence("THE TEXT becomes THE TOWN: how many POLES");
        RopePost x = new RopePost();
        Check.due("town of nothing", x.town(), 0);
        Check.due("no fault", x.fault(), NONE);
        Check.feed(x, P + "boy 0 1 1;");
        Check.due("one pole", x.town(), 1);
        Check.due("town of nothing again", x.town(), 0);
        Check.due("no poles", x.told(0), 0);
        Check.due("no boys", x.told(2), 0);
        Check.due("pole 0", x.pole(0, 0), RopePost.UNKNOWN);
        for (int poles = 0; poles <= 8; poles++) {
            Check.good(repeat(P, poles), poles);
        }
    }

    private static final String DAY = "pole 0 0 2;pole 10 0 2;pole 0 10 1;rope 0 1 10 99;rope 1 2 30 99;rope 0 2 30 99;boy 0 9 5;boy 1 9 5;"
        + "load 0 1 1 7 plain;load 1 2 1 8 long;load 2 0 1 9 alive;";

    /** A day in which all has changed that can. */
    private static void day(RopePost x) {
        x.take(0, 0);
        x.go(0, 0);
        x.pass(3);
        x.keep(0);
        x.take(1, 1);
        x.go(1, 1);
        x.pass(2);
        x.wet(2, true);
        x.cut(0);
        x.see(0, 1, 2);
        x.see(1, 2, 1);
        x.keep(1);
        x.seed(4711);
    }

    private static void townIsNew() {
        Check.sentence("MINUTE 0, all where they were told, ROPES whole, dry, without WEAR, no rings, sightings; IMAGES are gone");
        RopePost x = Check.town(DAY);
        List<Integer> due = Twins.everything(x);
        day(x);
        Check.feed(x, DAY);
        Check.due("the same text again", x.town(), 3);
        Check.due("the seed is not of it", x.seed(0), 4711);
        Twins.same("the same town again,", Twins.everything(x), due);
        Check.due("image 0 is gone", x.goBack(0), RopePost.NOT);
        Check.due("image 1 is gone", x.goBack(1), RopePost.NOT);
        Check.due("no sightings", x.forget(), 0);
    }

    private static void lesserTowns() {
        Check.sentence("THE TEXT becomes THE TOWN (all of it)");
        RopePost x = new RopePost();
        // Three fuller towns ahead of a lesser one, so that none of them can be left over anywhere.
        for (int turn = 0; turn < 3; turn++) {
            Check.feed(x, DAY);
            x.town();
            day(x);
        }
        Check.feed(x, "pole 0 0 1;pole 0 5 1;pole 0 9 1;rope 0 2 9 99;boy 1 9 5;load 1 0 1 7 plain;");
        Check.due("town", x.town(), 3);
        int[] due = {3, 1, 1, 1, 0, 0, 0, 0, 0, 0, 1};
        for (int what = 0; what <= 10; what++) {
            Check.due("told(" + what + ")", x.told(what), due[what]);
        }
        Check.due("no rope of old", x.rope(1, 0), RopePost.UNKNOWN);
        Check.due("no boy of old", x.boy(1, 0), RopePost.UNKNOWN);
        Check.due("no load of old", x.load(1, 0), RopePost.UNKNOWN);
        Check.due("no way of old", x.far(0, 0, 1), NONE);
        Check.due("no ropes of old to keep them joined", x.kept(3), NONE);
        // 1-2 by 4: 01 13, 02 9, 12 4; 0-1 by 5 would be 28.
        Check.due("no rope of old between them", x.newRope(0), 1);
        Check.due("its other pole", x.newRope(1), 2);
        Check.due("the sum by it", x.newRope(2), 26);
        Check.feed(x, P);
        Check.due("a lesser one still", x.town(), 1);
        Check.due("no ropes", x.told(1), 0);
        Check.due("no boys", x.told(2), 0);
        Check.due("no loads", x.told(3), 0);
        Check.feed(x, P + P + "boy 0 1 1;");
        Check.due("the boys of a town that is gone hold no poles", x.town(), 2);
    }

    private static void faultLeavesAll() {
        Check.sentence("-10 less the number of its FAULT (all is as it was)");
        String[] texts = {"pole 9 9 5;x", "pole 9 9 6;", repeat(P, 9), "pole 9 9 5;rope 0 0 1 1;",
            "pole 9 9 1;pole 8 8 1;rope 0 1 3 3;boy 0 3 3;load 0 1 3 3 long;boy 0 1 1;"};
        int[] faults = {1, 2, 3, 4, 4};
        for (int k = 0; k < texts.length; k++) {
            RopePost x = Check.town(DAY);
            day(x);
            List<Integer> now = Twins.today(x);
            int judged = x.judge(), who = x.who(1, 3);
            Check.feed(x, texts[k]);
            Check.due("town of '" + texts[k] + "'", x.town(), -10 - faults[k]);
            Twins.same("behind the fault,", Twins.today(x), now);
            Check.due("sightings", x.told(9), 2);
            Check.due("judged", x.judge(), judged);
            Check.due("who", x.who(1, 3), who);
            Check.due("X", x.pole(1, 0), 10);
            Check.due("Y", x.pole(2, 1), 10);
            Check.due("BEARS", x.pole(2, 2), 1);
            Check.due("image 1 is there", x.goBack(1), 1);
            Check.due("minute of image 1", x.told(5), 5);
            Check.due("image 0 is there", x.goBack(0), 1);
            Check.due("minute of image 0", x.told(5), 3);
        }
    }

    private static void faultOfLatest() {
        Check.sentence("The byte of the FAULT of the latest town(); NONE");
        RopePost x = new RopePost();
        Check.due("no town() yet", x.fault(), NONE);
        Check.feed(x, "pole 0 0 1;x");
        Check.due("not by the text alone", x.fault(), NONE);
        Check.due("town", x.town(), -11);
        Check.due("its byte", x.fault(), 11);
        Check.due("its byte again", x.fault(), 11);
        Check.feed(x, "?");
        x.pass(1);
        Check.due("its byte still", x.fault(), 11);
        Check.due("another town", x.town(), -11);
        Check.due("byte 0", x.fault(), 0);
        Check.due("town of nothing", x.town(), 0);
        Check.due("no fault", x.fault(), NONE);
        Check.feed(x, repeat(" ", 496) + "pole");
        x.town();
        Check.due("the last that can be", x.fault(), 500);
        Check.feed(x, P);
        x.town();
        Check.due("no fault behind a good one", x.fault(), NONE);
    }
}
