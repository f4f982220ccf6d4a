import com.sun.source.tree.CompilationUnitTree;
import com.sun.source.tree.MethodInvocationTree;
import com.sun.source.tree.MethodTree;
import com.sun.source.tree.NewArrayTree;
import com.sun.source.tree.NewClassTree;
import com.sun.source.util.JavacTask;
import com.sun.source.util.TreePathScanner;
import com.sun.source.util.Trees;
import java.lang.reflect.Constructor;
import java.lang.reflect.Field;
import java.lang.reflect.Method;
import java.lang.reflect.Modifier;
import java.nio.charset.StandardCharsets;
import java.nio.file.Files;
import java.nio.file.Path;
import java.util.Arrays;
import java.util.Map;
import java.util.TreeMap;
import java.util.TreeSet;
import java.util.regex.Matcher;
import java.util.regex.Pattern;
import javax.lang.model.element.Element;
import javax.tools.JavaCompiler;
import javax.tools.StandardJavaFileManager;
import javax.tools.ToolProvider;

/** The class's face, as the document has it, and those rules of LANGUAGE.md that can be seen in its text. */
public final class KnotRopeRules {
    private static final String FACE =
            "int all(), int anew(), int at(int,int), int back(int), int bears(int), int by(int,int,int,int), int common(int,int), int count(int), "
            + "int cross(int,int), int cut(int,int), int drawn(int,int,int), int end(int), int errors(int,int), int fault(int), "
            + "int feed(int,int,int,int,int), int feel(int), int feels(int), int ferry(int), int forge(int,int), int forged(int), int found(int), "
            + "int gorge(), int group(int), int groups(int), int has(int,int,int), int image(int), int keys(int,int,int), int knot(int,int), "
            + "int lasts(int,int), int learns(int,int,int,int), int leaves(int), int like(int), int mend(int), int mended(int,int), int means(int), "
            + "int order(int), int overlap(int,int), int part(int,int), int paste(int,int,int,int,int), int person(int,int), int reads(int,int), "
            + "int rope(int,int), int row(int,int,int), int says(int,int,int), int shortest(int,int), int slips(int), int splice(int,int), "
            + "int spots(int), int sum(int,int,int), int text(int), int tie(int,int,int), int undo(), int way(int,int,int), int wet(int), "
            + "int which(int), int winters(int,int,int), int word(int,int), int write(int,int,long), int writes(int,int,int)";

    private static int wrong = 0;

    private static void hold(boolean holds, String what) {
        if (!holds) {
            wrong++;
            System.out.println("does not hold: " + what);
        }
    }

    private static String signature(Method m) {
        StringBuilder sb = new StringBuilder(m.getReturnType() + " " + m.getName() + "(");
        for (Class<?> c : m.getParameterTypes()) {
            sb.append(sb.charAt(sb.length() - 1) == '(' ? "" : ",").append(c);
        }
        return sb.append(")").toString();
    }

    private static void face() {
        TreeSet<String> want = new TreeSet<>(Arrays.asList(FACE.split(", ")));
        TreeSet<String> publicNames = new TreeSet<>();
        TreeSet<String> got = new TreeSet<>();
        for (Method m : KnotRope.class.getDeclaredMethods()) {
            if (Modifier.isPrivate(m.getModifiers())) continue;
            hold(Modifier.isPublic(m.getModifiers()), "public: " + m);
            got.add(signature(m));
            publicNames.add(m.getName());
        }
        hold(got.equals(want), "the face: " + got);
        for (Class<?> c : KnotRope.class.getDeclaredClasses()) {
            hold(Modifier.isStatic(c.getModifiers()) && !Modifier.isPublic(c.getModifiers()), "static, not public: " + c);
            for (Method m : c.getDeclaredMethods()) hold(!publicNames.contains(m.getName()), "a name of its own: " + m);
            int fields = 0;
            for (Field f : c.getDeclaredFields()) fields += Modifier.isStatic(f.getModifiers()) ? 0 : 1;
            hold(fields <= 20, "twenty fields: " + c);
        }
        for (Method m : KnotRope.class.getDeclaredMethods()) {
            hold(!Modifier.isPrivate(m.getModifiers()) || !publicNames.contains(m.getName()), "a name of its own: " + m);
        }
        for (Field f : KnotRope.class.getDeclaredFields()) {
            hold(Modifier.isPrivate(f.getModifiers()) || f.getName().equals("NONE"), "private: " + f);
        }
        for (Constructor<?> c : KnotRope.class.getDeclaredConstructors()) {
            hold(Modifier.isPublic(c.getModifiers()) && c.getParameterCount() == 0, "the constructor: " + c);
        }
        hold(Modifier.isFinal(KnotRope.class.getModifiers()), "final");
        hold(KnotRope.class.getDeclaredClasses().length <= 11, "twelve classes");
    }

    private static void text(String source) {
        hold(source.chars().allMatch(c -> c == 10 || c >= 32 && c < 127), "plain signs");
        String code = source.replaceAll("(?s)/\\*.*?\\*/", " ").replaceAll("//[^\n]*", " ").replaceAll("\"[^\"\n]*\"", "QUOTED").replaceAll("'[^'\n]+'", "SIGN");
        for (String word : "throw throws try catch finally synchronized assert volatile native protected equals hashCode toString Object Exception Random System.currentTimeMillis".split(" ")) {
            hold(!Pattern.compile("\\b" + Pattern.quote(word) + "\\b").matcher(code).find(), "no " + word);
        }
        for (String sign : new String[] {"->", "::", "Exact(", "QUOTED +", "+ QUOTED", "@", "static {"}) hold(!code.contains(sign), "no " + sign);
        Matcher imports = Pattern.compile("import ([^;]+);").matcher(code);
        while (imports.find()) hold(imports.group(1).equals("java.util.Arrays"), "import of " + imports.group(1));
        Matcher library = Pattern.compile("\\b(System|Arrays|Math|Integer|Long)\\.(\\w+)").matcher(code);
        while (library.find()) {
            hold("arraycopy fill max min abs bitCount".contains(library.group(2)), "in the library: " + library.group());
        }
        methods(code);
    }

    private static void methods(String code) {
        String[] lines = code.split("\n");
        int start = 0;
        for (int i = 0; i < lines.length; i++) {
            if (lines[i].matches(" {4}( {4})?[a-zA-Z][^;=]*\\) \\{")) {
                start = i;
                hold(lines[i].split(",").length <= 7, "seven parameters: " + lines[i]);
            }
            if (lines[i].matches(" {4}( {4})?\\}")) hold(i - start <= 60 || !lines[start].contains("("), "sixty lines: " + lines[start]);
            if (lines[i].matches(" {4}( {4})?\\}")) start = i;
        }
    }

    /** Who calls whom, by the compiler's own names; and where objects and arrays are made. */
    private static final class Calls extends TreePathScanner<Void, Void> {
        final Map<String, TreeSet<String>> callees = new TreeMap<>();
        private final Trees trees;
        private String caller = "";
        private boolean calledLater;

        Calls(Trees trees) {
            this.trees = trees;
        }

        private static String name(Element e) {
            return e.getEnclosingElement() + "." + e;
        }

        @Override public Void visitMethod(MethodTree m, Void v) {
            String was = caller;
            boolean waslater = calledLater;
            caller = name(trees.getElement(getCurrentPath()));
            calledLater = m.getReturnType() != null;
            callees.putIfAbsent(caller, new TreeSet<>());
            super.visitMethod(m, v);
            caller = was;
            calledLater = waslater;
            return null;
        }

        @Override public Void visitMethodInvocation(MethodInvocationTree m, Void v) {
            if (!caller.isEmpty()) callees.get(caller).add(name(trees.getElement(getCurrentPath())));
            return super.visitMethodInvocation(m, v);
        }

        @Override public Void visitNewClass(NewClassTree n, Void v) {
            if (!caller.isEmpty()) callees.get(caller).add(name(trees.getElement(getCurrentPath())));
            hold(!calledLater, "made in a constructor alone: " + n + " in " + caller);
            return super.visitNewClass(n, v);
        }

        @Override public Void visitNewArray(NewArrayTree n, Void v) {
            hold(!calledLater, "made in a constructor alone: " + n + " in " + caller);
            return super.visitNewArray(n, v);
        }

        /** How deep the calls go from a method on, itself with them; the library's are one each. */
        int depth(String from, int open) {
            if (open > 300) return 300;
            int deepest = 0;
            for (String callee : callees.getOrDefault(from, new TreeSet<>())) deepest = Math.max(deepest, depth(callee, open + 1));
            return deepest + 1;
        }
    }

    private static void calls() throws Exception {
        JavaCompiler compiler = ToolProvider.getSystemJavaCompiler();
        StandardJavaFileManager files = compiler.getStandardFileManager(null, null, null);
        JavacTask task = (JavacTask) compiler.getTask(null, files, null, null, null, files.getJavaFileObjects("src/main/java/KnotRope.java"));
        Iterable<? extends CompilationUnitTree> units = task.parse();
        task.analyze();
        Calls calls = new Calls(Trees.instance(task));
        for (CompilationUnitTree unit : units) calls.scan(unit, null);
        hold(calls.callees.size() > 100, "the methods are found: " + calls.callees.size());
        for (String method : calls.callees.keySet()) hold(calls.depth(method, 1) <= 8, "eight deep: " + method + " goes " + calls.depth(method, 1));
    }

    public static void main(String[] args) throws Exception {
        face();
        calls();
        text(Files.readString(Path.of("src/main/java/KnotRope.java"), StandardCharsets.ISO_8859_1));
        System.out.println(wrong == 0 ? "all rules hold" : wrong + " rules do not hold");
        if (wrong != 0) System.exit(1);
    }
}
