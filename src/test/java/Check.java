/** What the tests share: feeding a text, comparing answers, ending with the right code. */
final class Check {
    private static int calls = 0;
    private static int wrong = 0;

    private Check() {
    }

    static void due(String call, long got, long want) {
        calls++;
        if (got != want) {
            wrong++;
            if (wrong <= 40) {
                System.out.println(call + " answered " + got + ", due is " + want);
            }
        }
    }

    static void feed(RopePost post, String text) {
        for (int at = 0; at < text.length(); at += 8) {
            int n = Math.min(8, text.length() - at);
            long bytes = 0;
            for (int k = 0; k < n; k++) {
                bytes = bytes << 8 | text.charAt(at + k) & 255;
            }
            post.feed(n, bytes);
        }
    }

    static RopePost town(String text) {
        RopePost post = new RopePost();
        feed(post, text);
        int answer = post.town();
        if (answer < 0) {
            due("town of " + text + " (fault at " + post.fault() + ")", answer, 0);
        }
        return post;
    }

    static void end(String name) {
        System.out.println(name + ": " + calls + " answers, " + wrong + " not as due");
        if (wrong != 0) {
            System.exit(1);
        }
    }
}
