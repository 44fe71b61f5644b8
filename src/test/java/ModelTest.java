import java.util.Random;

/** Drawn runs of 512 calls each: every answer against the document told a second time (Model). */
public final class ModelTest {
    private static final int[] EDGES = {Integer.MIN_VALUE, -1000000001, -2, -1, 0, 1, 2, 3, 4, 5, 6, 7, 8, 9, 10, 11, 12, 15, 16, 20, 31, 32,
        50, 59, 60, 61, 99, 100, 101, 128, 199, 200, 201, 255, 256, 499, 500, 501, 4095, 4096, 9998, 9999, 10000, 65536, Integer.MAX_VALUE};
    private static final String[] NAMES = {"feed", "town", "fault", "told", "pole", "rope", "boy", "load", "go", "take", "lay", "pass", "cut",
        "splice", "wet", "storm", "ring", "far", "round", "dealt", "kept", "newRope", "odds", "pays", "see", "forget", "who", "judge", "seed",
        "keep", "goBack"};
    /** How often each call is drawn. */
    private static final int[] OFTEN = {1, 0, 1, 8, 4, 8, 8, 6, 30, 12, 4, 16, 3, 4, 5, 2, 3, 4, 5, 3, 2, 2, 2, 4, 6, 1, 6, 3, 1, 2, 2};

    private final Random random;
    private final RopePost post = new RopePost();
    private final Model model = new Model();
    private final int runNumber;
    private int calls = 0;

    public static void main(String[] args) {
        for (int run = 0; run < 700; run++) {
            new ModelTest(run).run();
        }
        Check.end("ModelTest");
    }

    private ModelTest(int run) {
        runNumber = run;
        random = new Random(run);
    }

    private void run() {
        int towns = random.nextInt(3);
        tellTown(random.nextInt(8) == 0);
        while (calls < 512) {
            if (towns > 0 && random.nextInt(200) == 0) {
                towns--;
                tellTown(random.nextInt(3) == 0);
            } else {
                call(draw());
            }
        }
    }

    private int draw() {
        int sum = 0;
        for (int often : OFTEN) {
            sum += often;
        }
        int drawn = random.nextInt(sum), which = 0;
        while (drawn >= OFTEN[which]) {
            drawn -= OFTEN[which++];
        }
        return which;
    }

    private void due(String call, int got, int want) {
        calls++;
        if (calls <= 512) {
            Check.due("run " + runNumber + ", call " + calls + ": " + call, got, want);
        }
    }

    // ---- drawn towns

    private int below(int n) {
        return random.nextInt(n);
    }

    private String clause(String word, int... numbers) {
        StringBuilder text = new StringBuilder(word);
        for (int number : numbers) {
            text.append(' ').append(number);
        }
        return text.toString();
    }

    private String drawnTown() {
        StringBuilder text = new StringBuilder();
        int poles = 2 + below(7), spread = below(3) == 0 ? 100 : 15;
        int[] bears = new int[poles];
        for (int p = 0; p < poles; p++) {
            bears[p] = 1 + below(below(2) == 0 ? 2 : 5);
            text.append(clause("pole", below(spread), below(spread), bears[p])).append(';');
        }
        int feet = below(3) == 0 ? 99 : 30;
        for (int r = below(5) == 0 ? 12 : 1 + below(12); r > 0; r--) {
            int p = below(poles);
            text.append(clause("rope", p, (p + 1 + below(poles - 1)) % poles, 1 + below(feet), 60 + below(90))).append(';');
        }
        for (int b = below(20) == 0 ? 0 : 2 + below(3); b > 0; b--) {
            int p = below(poles);
            if (bears[p]-- > 0) {
                text.append(clause("boy", p, 30 + below(80), 1 + below(below(2) == 0 ? 50 : 10))).append(';');
            }
        }
        String[] kinds = {" plain;", " alive;", " level;", " long;"};
        for (int l = below(20) == 0 ? 0 : 1 + below(4); l > 0; l--) {
            int a = below(poles);
            text.append(clause("load", a, (a + 1 + below(poles - 1)) % poles, below(40), below(1000))).append(kinds[below(4)]);
        }
        return text.toString();
    }

    private String spoilt(String text) {
        String[] bits = {"pole", "rope", "boy", "load", "plain", ";", " ", "0", "1", "7", "99", "100", "1000", "x", "P", "" + (char) 200,
            "pole 0 0 5;", "boy 0 1 1;", "rope 0 1 2 3;", "load 0 1 1 1 long;"};
        for (int k = below(3); k >= 0; k--) {
            int at = below(text.length() + 1), end = Math.min(text.length(), at + below(3));
            text = text.substring(0, at) + (below(2) == 0 ? bits[below(bits.length)] : "") + text.substring(end);
        }
        return text;
    }

    private void tellTown(boolean spoil) {
        String text = spoil ? spoilt(drawnTown()) : drawnTown();
        for (int at = 0; at < text.length(); ) {
            int n = Math.min(below(4) == 0 ? 1 + below(8) : 8, text.length() - at);
            long bytes = Check.bytes(text.substring(at, at + n));
            due("feed", post.feed(n, bytes), model.feed(n, bytes));
            at += n;
        }
        due("town of " + text, post.town(), model.town());
        due("fault of " + text, post.fault(), model.fault());
    }

    // ---- drawn calls

    private int edge() {
        return EDGES[below(EDGES.length)];
    }

    /** Mostly one that there is, sometimes an edge. */
    private int of(int what) {
        int count = model.told(what);
        return count == 0 || below(12) == 0 ? edge() : below(count);
    }

    private int upTo(int most) {
        return below(12) == 0 ? edge() : below(most + 1);
    }

    private void call(int which) {
        String name = NAMES[which];
        if (which < 8) {
            callTown(name);
        } else if (which < 17) {
            callMinutes(name);
        } else {
            callPost(name);
        }
    }

    private void callTown(String name) {
        int what = upTo(8);
        switch (name) {
            case "feed":
                int n = upTo(9);
                long bytes = random.nextLong();
                due("feed(" + n + ", " + bytes + ")", post.feed(n, bytes), model.feed(n, bytes));
                break;
            case "fault":
                due("fault()", post.fault(), model.fault());
                break;
            case "told":
                int told = upTo(11);
                due("told(" + told + ")", post.told(told), model.told(told));
                break;
            case "pole":
                int p = of(0);
                due("pole(" + p + ", " + what + ")", post.pole(p, what), model.pole(p, what));
                break;
            case "rope":
                int r = of(1);
                due("rope(" + r + ", " + what + ")", post.rope(r, what), model.rope(r, what));
                break;
            case "boy":
                int b = of(2);
                due("boy(" + b + ", " + what + ")", post.boy(b, what), model.boy(b, what));
                break;
            default:
                int l = of(3);
                due("load(" + l + ", " + what + ")", post.load(l, what), model.load(l, what));
        }
    }

    /** Mostly a rope that ends where the boy is. */
    private int ropeAt(int b) {
        int r = of(1), p = model.boy(b, 0);
        for (int turn = below(6); turn > 0 && model.rope(r, 0) != p && model.rope(r, 1) != p; turn--) {
            r = of(1);
        }
        return r;
    }

    /** Mostly a load that lies where the boy is. */
    private int loadAt(int b) {
        int l = of(3), p = model.boy(b, 0);
        for (int turn = below(6); turn > 0 && model.load(l, 0) != p; turn--) {
            l = of(3);
        }
        return l;
    }

    private void callMinutes(String name) {
        int b = of(2), r = name.equals("go") ? ropeAt(b) : of(1), l = name.equals("take") ? loadAt(b) : of(3);
        switch (name) {
            case "go":
                due("go(" + b + ", " + r + ")", post.go(b, r), model.go(b, r));
                break;
            case "take":
                due("take(" + b + ", " + l + ")", post.take(b, l), model.take(b, l));
                break;
            case "lay":
                due("lay(" + b + ", " + l + ")", post.lay(b, l), model.lay(b, l));
                break;
            case "pass":
                int n = below(10) == 0 ? upTo(100) : 1 + below(6);
                due("pass(" + n + ")", post.pass(n), model.pass(n));
                break;
            case "cut":
                due("cut(" + r + ")", post.cut(r), model.cut(r));
                break;
            case "splice":
                due("splice(" + r + ")", post.splice(r), model.splice(r));
                break;
            case "wet":
                boolean is = random.nextBoolean();
                due("wet(" + r + ", " + is + ")", post.wet(r, is), model.wet(r, is));
                break;
            case "storm":
                int q = upTo(101);
                due("storm(" + q + ")", post.storm(q), model.storm(q));
                break;
            default:
                int i = of(8), what = upTo(1);
                due("ring(" + i + ", " + what + ")", post.ring(i, what), model.ring(i, what));
        }
    }

    private void callPost(String name) {
        int p = of(0), q = of(0), b = of(2), l = of(3);
        switch (name) {
            case "far":
                due("far(" + b + ", " + p + ", " + q + ")", post.far(b, p, q), model.far(b, p, q));
                break;
            case "round":
                int loads = upTo((1 << model.told(3)) - 1);
                due("round(" + b + ", " + loads + ")", post.round(b, loads), model.round(b, loads));
                break;
            case "dealt":
                int whose = below(2) == 0 ? -1 : l;
                due("dealt(" + whose + ")", post.dealt(whose), model.dealt(whose));
                break;
            case "kept":
                int set = upTo((1 << model.told(0)) - 1) & (below(2) == 0 ? -1 : upTo(255));
                due("kept(" + set + ")", post.kept(set), model.kept(set));
                break;
            case "newRope":
                int what = upTo(3);
                due("newRope(" + what + ")", post.newRope(what), model.newRope(what));
                break;
            case "odds":
                int wind = upTo(100);
                due("odds(" + p + ", " + q + ", " + wind + ")", post.odds(p, q, wind), model.odds(p, q, wind));
                break;
            case "pays":
                int n = below(2) == 0 ? 0 : upTo(100), c = below(4) == 0 ? upTo(100) : below(40);
                due("pays(" + l + ", " + b + ", " + p + ", " + q + ", " + n + ", " + c + ")", post.pays(l, b, p, q, n, c), model.pays(l, b, p, q, n, c));
                break;
            default:
                callBook(name, b, p);
        }
    }

    private void callBook(String name, int b, int p) {
        int minute = below(20) == 0 ? edge() : below(60), i = below(8) == 0 ? edge() : below(2);
        switch (name) {
            case "see":
                due("see(" + b + ", " + p + ", " + minute + ")", post.see(b, p, minute), model.see(b, p, minute));
                break;
            case "forget":
                due("forget()", post.forget(), model.forget());
                break;
            case "who":
                due("who(" + p + ", " + minute + ")", post.who(p, minute), model.who(p, minute));
                break;
            case "judge":
                due("judge()", post.judge(), model.judge());
                break;
            case "seed":
                int v = below(3) == 0 ? edge() : random.nextInt();
                due("seed(" + v + ")", post.seed(v), model.seed(v));
                break;
            case "keep":
                due("keep(" + i + ")", post.keep(i), model.keep(i));
                break;
            default:
                due("goBack(" + i + ")", post.goBack(i), model.goBack(i));
        }
    }
}
