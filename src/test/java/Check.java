import java.io.IOException;
import java.nio.file.Files;
import java.nio.file.Path;
import java.util.Comparator;
import java.util.stream.Stream;

/** What the tests share: feeding a text, comparing answers, ending with the right code. */
final class Check {
    private static int calls = 0;
    private static int wrong = 0;
    private static String sentence = "";

    private Check() {
    }

    /** The words of the document that the next answers hold; told with each answer that is not as due. */
    static void sentence(String words) {
        sentence = "[" + words + "] ";
    }

    static void due(String call, long got, long want) {
        calls++;
        if (got != want) {
            wrong++;
            if (wrong <= 40) {
                System.out.println(sentence + call + " answered " + got + ", due is " + want);
            }
        }
    }

    static void feed(RopePost post, String text) {
        for (int at = 0; at < text.length(); at += 8) {
            int n = Math.min(8, text.length() - at);
            post.feed(n, bytes(text, at, n));
        }
    }

    /** Up to eight signs as one number, the first of them the highest byte; makes nothing, so that WildTest can count. */
    private static long bytes(String text, int at, int n) {
        long bytes = 0;
        for (int k = 0; k < n; k++) {
            bytes = bytes << 8 | text.charAt(at + k) & 255;
        }
        return bytes;
    }

    static long bytes(String signs) {
        return bytes(signs, 0, signs.length());
    }

    static RopePost town(String text) {
        RopePost post = new RopePost();
        feed(post, text);
        int answer = post.town();
        if (answer < 0) {
            due("town of " + text + " (fault at " + post.fault() + ")", answer, 0);
        }
        return post;
    }

    /** A text without a fault, told to a new object. */
    static void good(String text, int poles) {
        RopePost x = new RopePost();
        feed(x, text);
        due("town of '" + text + "'", x.town(), poles);
        due("fault of '" + text + "'", x.fault(), -1);
        due("poles of '" + text + "'", x.told(0), poles);
    }

    /** A text with a fault, told to a new object. */
    static void bad(String text, int fault, int at) {
        RopePost x = new RopePost();
        feed(x, text);
        due("town of '" + text + "'", x.town(), -10 - fault);
        due("fault of '" + text + "'", x.fault(), at);
        due("poles of '" + text + "'", x.told(0), 0);
        due("bytes behind '" + text + "'", x.told(4), 0);
    }

    /** A folder of a test's own, with all that is in it. */
    static void remove(Path folder) throws IOException {
        try (Stream<Path> files = Files.walk(folder)) {
            for (Path file : files.sorted(Comparator.reverseOrder()).toList()) {
                Files.delete(file);
            }
        }
    }

    static void end(String name) {
        System.out.println(name + ": " + calls + " answers, " + wrong + " not as due");
        if (wrong != 0) {
            System.exit(1);
        }
    }
}
