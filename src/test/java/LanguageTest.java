import com.sun.source.tree.CompilationUnitTree;
import com.sun.source.tree.ExpressionTree;
import com.sun.source.tree.IdentifierTree;
import com.sun.source.tree.MemberSelectTree;
import com.sun.source.tree.MethodInvocationTree;
import com.sun.source.tree.MethodTree;
import com.sun.source.util.JavacTask;
import com.sun.source.util.TreeScanner;
import java.lang.reflect.Constructor;
import java.lang.reflect.Field;
import java.lang.reflect.Method;
import java.lang.reflect.Modifier;
import java.nio.file.Files;
import java.nio.file.Path;
import java.util.List;
import java.util.Map;
import java.util.Set;
import java.util.TreeMap;
import java.util.TreeSet;
import java.util.regex.Matcher;
import java.util.regex.Pattern;
import javax.lang.model.element.Name;
import javax.tools.JavaCompiler;
import javax.tools.StandardJavaFileManager;
import javax.tools.ToolProvider;

/** What of LANGUAGE.md can be read off the source and the compiled class. */
public final class LanguageTest {
    private static final String FACE = "feed(int,long) town() fault() told(int) pole(int,int) rope(int,int) boy(int,int) load(int,int) "
        + "go(int,int) take(int,int) lay(int,int) pass(int) cut(int) splice(int) wet(int,boolean) storm(int) ring(int,int) "
        + "far(int,int,int) round(int,int) dealt(int) kept(int) newRope(int) odds(int,int,int) pays(int,int,int,int,int,int) "
        + "see(int,int,int) forget() who(int,int) judge() seed(int) keep(int) goBack(int)";

    private static final Path SOURCE = Path.of("src/main/java/RopePost.java");
    private static final int MOST_DEEP = 8;

    public static void main(String[] args) throws Exception {
        face();
        members(RopePost.class);
        for (Class<?> inside : RopePost.class.getDeclaredClasses()) {
            members(inside);
            Check.due(inside + " is static", Modifier.isStatic(inside.getModifiers()) ? 1 : 0, 1);
            Check.due(inside + " is not public", inside.getModifiers() & (Modifier.PUBLIC | Modifier.PROTECTED), 0);
        }
        Check.due("some twelve classes", RopePost.class.getDeclaredClasses().length <= 11 ? 1 : 0, 1);
        source(Files.readString(SOURCE));
        Calls calls = new Calls();
        calls.read();
        for (String name : calls.of.keySet()) {
            int depth = calls.depth(name, 1);
            Check.due("calls open at once from " + name + ": " + depth, depth <= MOST_DEEP ? 1 : 0, 1);
        }
        Check.end("LanguageTest");
    }

    private static String sign(Method method) {
        StringBuilder text = new StringBuilder(method.getName()).append('(');
        String comma = "";
        for (Class<?> type : method.getParameterTypes()) {
            text.append(comma).append(type.getName());
            comma = ",";
        }
        return text.append(')').toString();
    }

    private static void face() {
        TreeSet<String> due = new TreeSet<>(List.of(FACE.split(" ")));
        TreeSet<String> got = new TreeSet<>();
        for (Method method : RopePost.class.getDeclaredMethods()) {
            if (Modifier.isPrivate(method.getModifiers())) {
                for (String name : due) {
                    Check.due("a private " + method.getName(), name.startsWith(method.getName() + "(") ? 1 : 0, 0);
                }
            } else {
                got.add(sign(method));
                Check.due(method + " is public", Modifier.isPublic(method.getModifiers()) ? 1 : 0, 1);
                Check.due(method + " answers an int", method.getReturnType() == int.class ? 1 : 0, 1);
            }
        }
        Check.due("the face " + got, got.equals(due) ? 1 : 0, 1);
        Constructor<?>[] constructors = RopePost.class.getDeclaredConstructors();
        Check.due("constructors", constructors.length, 1);
        Check.due("it is public", constructors[0].getModifiers(), Modifier.PUBLIC);
        Check.due("public and final", RopePost.class.getModifiers(), Modifier.PUBLIC | Modifier.FINAL);
        int open = 0;
        for (Field field : RopePost.class.getDeclaredFields()) {
            open += Modifier.isPrivate(field.getModifiers()) ? 0 : 1;
        }
        Check.due("constants of the face", open, 5);
    }

    private static void members(Class<?> type) {
        int fields = 0;
        for (Field field : type.getDeclaredFields()) {
            if (Modifier.isStatic(field.getModifiers())) {
                Check.due(field + " is final", Modifier.isFinal(field.getModifiers()) ? 1 : 0, 1);
            } else {
                fields++;
            }
        }
        Check.due("fields of " + type + ": " + fields, fields <= 20 ? 1 : 0, 1);
        for (Method method : type.getDeclaredMethods()) {
            Check.due("parameters of " + method, method.getParameterCount() <= 7 ? 1 : 0, 1);
        }
    }

    private static void source(String text) {
        String code = text.replaceAll("(?s)/\\*.*?\\*/", "").replaceAll("//[^\n]*", "").replaceAll("\"[^\"]*\"", "TEXT");
        String[] never = {"\\bthrow\\b", "\\btry\\b", "\\bcatch\\b", "\\bsynchronized\\b", "\\bassert\\b", "->", "::", "\\bpackage\\b",
            "Exact\\b", "\\bnative\\b", "\\bprotected\\b", "TEXT\\s*\\+", "\\+\\s*TEXT", "\\bvar\\b", "\\bObject\\b", "\\bRandom\\b",
            "\\bnull\\b", "\\bdouble\\b", "\\bfloat\\b"};
        for (String word : never) {
            Check.due("'" + word + "' in the source", Pattern.compile(word).matcher(code).find() ? 1 : 0, 0);
        }
        Matcher used = Pattern.compile("\\b(Math|Integer|Long|Arrays|System|List|ArrayList)\\.(\\w+)").matcher(code);
        while (used.find()) {
            boolean fine = "Math.max Math.min Math.abs Integer.bitCount Integer.lowestOneBit Arrays.fill System.arraycopy"
                .contains(used.group());
            Check.due("the library's " + used.group(), fine ? 1 : 0, 1);
        }
        Matcher imported = Pattern.compile("\\bimport\\s+([\\w.]+)").matcher(code);
        while (imported.find()) {
            Check.due("import " + imported.group(1), imported.group(1).equals("java.util.Arrays") ? 1 : 0, 1);
        }
        methodLengths(code);
        for (int k = 0; k < text.length(); k++) {
            Check.due("sign " + (int) text.charAt(k) + " in the source", text.charAt(k) < 128 ? 1 : 0, 1);
        }
    }

    private static void methodLengths(String code) {
        int start = -1;
        String[] lines = code.split("\n");
        Pattern head = Pattern.compile("^( {4}| {8})(?! )[^=;]*\\([^=;]*\\) \\{$");
        String end = "";
        for (int k = 0; k < lines.length; k++) {
            Matcher begins = head.matcher(lines[k]);
            if (begins.find()) {
                start = k;
                end = begins.group(1) + "}";
            }
            if (start >= 0 && lines[k].equals(end)) {
                Check.due("lines of " + lines[start].trim(), k - start < 60 ? 1 : 0, 1);
                start = -1;
            }
        }
    }

    /** Which names are called in which method, the library's too. Methods of like names count as one: so none is left out. */
    private static final class Calls extends TreeScanner<Void, String> {
        final Map<String, Set<String>> of = new TreeMap<>();

        void read() throws Exception {
            JavaCompiler compiler = ToolProvider.getSystemJavaCompiler();
            try (StandardJavaFileManager files = compiler.getStandardFileManager(null, null, null)) {
                JavacTask task = (JavacTask) compiler.getTask(null, files, null, List.of("-proc:none"), null, files.getJavaFileObjects(SOURCE));
                for (CompilationUnitTree unit : task.parse()) {
                    scan(unit, "");
                }
            }
        }

        @Override
        public Void visitMethod(MethodTree method, String inside) {
            String name = method.getName().toString();
            of.putIfAbsent(name, new TreeSet<>());
            return super.visitMethod(method, name);
        }

        @Override
        public Void visitMethodInvocation(MethodInvocationTree call, String inside) {
            ExpressionTree what = call.getMethodSelect();
            Name name = what instanceof MemberSelectTree part ? part.getIdentifier() : ((IdentifierTree) what).getName();
            of.computeIfAbsent(inside, key -> new TreeSet<>()).add(name.toString());
            return super.visitMethodInvocation(call, inside);
        }

        /** Above the bound it is not looked at further: so a call of itself ends here too. */
        int depth(String name, int level) {
            int deepest = level;
            for (String called : level <= MOST_DEEP ? of.getOrDefault(name, Set.of()) : Set.<String>of()) {
                deepest = Math.max(deepest, depth(called, level + 1));
            }
            return deepest;
        }
    }
}
