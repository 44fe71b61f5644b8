import java.io.IOException;
import java.nio.file.Files;
import java.nio.file.Path;

/** .ci/run itself: it is copied into small projects, of which one thing is broken, and must refuse these. */
public final class CiTest {
    private static final String CLASS = "src/main/java/RopePost.java";
    private static final String GOOD = "{ public static void main(String[] args) { new RopePost(); } }";
    private static final String WRONG = "{ public static void main(String[] args) { System.exit(1); } }";
    private static final String THROWS = "{ public static void main(String[] args) { throw new IllegalStateException(\"as meant\"); } }";

    private CiTest() {
    }

    public static void main(String[] args) throws Exception {
        landing("", "", true, "3 passed, 0 failed");
        landing("../shared/tests/OneRun.java", "public final class OneRun " + WRONG, false, "2 passed, 1 failed");
        landing("../shared/tests/OneRun.java", "public final class OneRun " + THROWS, false, "2 passed, 1 failed");
        landing("src/test/java/FirstTest.java", "public final class FirstTest " + WRONG, false, "2 passed, 1 failed");
        landing("src/test/java/SecondTest.java", "public final class SecondTest {", false, "2 passed, 1 failed");
        landing(CLASS, "public final class RopePost {", false, "");
        landing("../shared/tests/OneRun.java", null, false, "");
        Check.end("CiTest");
    }

    /** A sound project but for one file, which has another text, or is left out. */
    private static void landing(String file, String text, boolean lands, String count) throws Exception {
        Path room = Files.createTempDirectory("ci");
        try {
            Path project = room.resolve("main");
            put(project, ".ci/run", Files.readString(Path.of(".ci/run")));
            put(project, CLASS, "public final class RopePost { }");
            for (String helper : new String[] {"Check", "Twins", "Model"}) {
                put(project, "src/test/java/" + helper + ".java", "final class " + helper + " { }");
            }
            put(project, "src/test/java/FirstTest.java", "public final class FirstTest " + GOOD);
            put(project, "src/test/java/SecondTest.java", "public final class SecondTest " + GOOD);
            put(project, "../shared/tests/OneRun.java", "public final class OneRun " + GOOD);
            if (text == null) {
                Files.delete(project.resolve(file).normalize());
            } else if (!file.isEmpty()) {
                put(project, file, text);
            }
            look(project, "'" + file + "': '" + text + "'", lands, count);
        } finally {
            Check.remove(room);
        }
    }

    private static void put(Path project, String file, String text) throws IOException {
        Path path = project.resolve(file).normalize();
        Files.createDirectories(path.getParent());
        Files.writeString(path, text);
    }

    private static void look(Path project, String name, boolean lands, String count) throws Exception {
        Process process = new ProcessBuilder("sh", project.resolve(".ci/run").toString()).redirectErrorStream(true).start();
        process.getOutputStream().close();
        String said = new String(process.getInputStream().readAllBytes());
        Check.due("it lands with " + name, process.waitFor() == 0 ? 1 : 0, lands ? 1 : 0);
        Check.due("'" + count + "' is said with " + name, said.contains(count) ? 1 : 0, 1);
    }
}
