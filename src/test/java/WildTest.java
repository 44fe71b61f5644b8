import java.lang.management.ManagementFactory;
import java.util.Random;

/** Wild calls in drawn order: none throws, none makes objects; and drawn texts. */
public final class WildTest {
    private static final int[] EDGES = {-2147483648, -1000000001, -2, -1, 0, 1, 2, 3, 4, 5, 6, 7, 8, 9, 10, 11, 12, 15, 16, 20,
        31, 32, 50, 63, 99, 100, 101, 127, 128, 199, 200, 255, 256, 499, 500, 4095, 4096, 9999, 10000, 65536, 2147483647};
    private static final String[] TOWNS = {
        "",
        "pole 0 0 1;",
        "pole 0 0 1;pole 0 0 1;load 0 1 200 999 alive;",
        "pole 0 0 3;pole 10 0 1;pole 20 0 2;pole 20 30 2;rope 0 1 10 150;rope 1 2 25 120;rope 0 2 40 300;rope 2 3 18 200;"
            + "boy 0 100 5;boy 0 60 10;load 0 3 30 90 plain;load 1 2 10 50 level;load 2 0 5 70 alive;load 0 2 0 9 long;",
        "pole 0 0 5;pole 1 0 5;pole 2 0 5;pole 3 0 5;pole 4 0 5;pole 5 0 5;pole 6 0 5;pole 99 99 5;rope 0 1 1 999;rope 1 2 99 999;"
            + "rope 2 3 9 999;rope 3 4 9 999;rope 4 5 9 999;rope 5 6 9 999;rope 6 7 9 999;rope 7 0 9 999;rope 0 2 9 999;"
            + "rope 2 4 9 999;rope 4 6 9 999;rope 6 0 99 1;boy 0 200 1;boy 1 1 50;boy 2 100 7;boy 3 100 9;"
            + "load 0 7 200 999 level;load 7 0 1 1 long;load 3 5 0 5 alive;load 5 3 99 99 plain;"};

    public static void main(String[] args) {
        madeByCalls();
        for (int seed = 0; seed < 600; seed++) {
            wild(new Random(seed), TOWNS[seed % TOWNS.length]);
        }
        for (int seed = 0; seed < 3000; seed++) {
            wildText(new Random(seed));
        }
        Check.end("WildTest");
    }

    /** What each call answers is for ModelTest; here it only has to answer at all, within the 512 calls and beyond them. */
    private static void wild(Random random, String town) {
        RopePost x = Check.town(town);
        for (int k = 0; k < 1000; k++) {
            int which = random.nextInt(30);
            long answer = call(x, which, random);
            boolean counted = answer >= -14 || answer <= RopePost.UNKNOWN && answer >= RopePost.FULL;
            Check.due("call " + which + " answers " + answer, counted ? 1 : 0, 1);
        }
    }

    private static int any(Random random) {
        return random.nextInt(3) == 0 ? EDGES[random.nextInt(EDGES.length)] : random.nextInt(random.nextInt(3) == 0 ? 13 : 4);
    }

    private static long call(RopePost x, int which, Random random) {
        int a = any(random), b = any(random), c = any(random);
        switch (which) {
            case 0: return x.feed(a, random.nextLong());
            case 1: return random.nextInt(30) == 0 ? x.town() : x.fault();
            case 2: return x.told(a);
            case 3: return x.pole(a, b);
            case 4: return x.rope(a, b);
            case 5: return x.boy(a, b);
            case 6: return x.load(a, b);
            case 7: return x.take(a, b);
            case 8: return x.lay(a, b);
            case 9: return x.pass(a);
            case 10: return x.cut(a);
            case 11: return x.splice(a);
            case 12: return x.wet(a, random.nextBoolean());
            case 13: return x.storm(a);
            case 14: return x.ring(a, b);
            case 15: return x.far(a, b, c);
            case 16: return x.round(a, b);
            case 17: return x.dealt(a);
            case 18: return x.kept(a);
            case 19: return x.newRope(a);
            case 20: return x.odds(a, b, c);
            case 21: return x.pays(a, b, c, any(random), any(random), any(random));
            case 22: return x.see(a, b, c);
            case 23: return random.nextInt(9) == 0 ? x.forget() : x.judge();
            case 24: return x.who(a, b);
            case 25: return x.seed(a);
            case 26: return x.keep(a);
            case 27: return x.goBack(a);
            default: return x.go(a, b);
        }
    }

    private static void wildText(Random random) {
        String[] bits = {"pole", "rope", "boy", "load", "plain", "alive", "level", "long", ";", ";", " ", " ", "0", "1", "2", "99",
            "100", "1000", "x", "P", "-", "" + (char) 200, "pole 0 0 5;", "pole 1 2 3;", "rope 0 1 2 3;", "boy 0 1 1;",
            "load 0 1 1 1 long;"};
        RopePost x = new RopePost();
        StringBuilder text = new StringBuilder("pole 0 0 5;");
        for (int k = random.nextInt(20); k >= 0; k--) {
            text.append(bits[random.nextInt(4) == 0 ? random.nextInt(bits.length) : 22 + random.nextInt(5)]);
        }
        Check.feed(x, text.toString());
        int length = x.told(4), answer = x.town(), fault = x.fault();
        boolean sound = answer >= 1 && answer <= 8 && fault == -1;
        boolean faulty = answer <= -11 && answer >= -14 && fault >= 0 && fault <= length;
        Check.due("town of " + text, sound || faulty ? 1 : 0, 1);
        if (faulty) {
            cutAtTheFault(text.toString(), fault, answer);
        }
    }

    /** What stands ahead of a fault may at most be unended: its own fault is not ahead of its end. */
    private static void cutAtTheFault(String text, int fault, int answer) {
        RopePost x = new RopePost();
        Check.feed(x, text.substring(0, fault));
        int ahead = x.town();
        boolean unended = ahead == -11 && x.fault() == fault;
        Check.due("ahead of the fault of " + text + " (" + answer + ")", ahead >= 0 || unended ? 1 : 0, 1);
    }

    private static long bytesMade() {
        if (ManagementFactory.getThreadMXBean() instanceof com.sun.management.ThreadMXBean bean) {
            return bean.getThreadAllocatedBytes(Thread.currentThread().getId());
        }
        return 0;
    }

    /** So many calls that what the count itself makes is less than a byte a call. */
    private static void madeByCalls() {
        RopePost x = Check.town(TOWNS[4]);
        long before = bytesMade();
        for (int turn = 0; turn < 50; turn++) {
            manyCalls(x);
        }
        long made = bytesMade() - before;
        Check.due("bytes made by 13000 calls: " + made, made < 13000 ? 1 : 0, 1);
    }

    private static void manyCalls(RopePost x) {
        Check.feed(x, TOWNS[4]);
        x.town();
        for (int k = 0; k < 20; k++) {
            x.go(k & 3, k % 12);
            x.take(k & 3, k & 3);
            x.pass(9);
            x.dealt(k % 5 - 1);
            x.round(k & 3, 15);
            x.kept(255 >> (k & 3));
            x.newRope(k % 3);
            x.who(k & 7, 50);
            x.see(k & 3, k & 7, k);
            x.judge();
            x.storm(20);
            x.keep(k & 1);
            x.goBack(k & 1);
        }
    }
}
