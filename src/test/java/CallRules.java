import com.sun.source.tree.ClassTree;
import com.sun.source.tree.CompilationUnitTree;
import com.sun.source.tree.MethodInvocationTree;
import com.sun.source.tree.MethodTree;
import com.sun.source.tree.NewClassTree;
import com.sun.source.util.JavacTask;
import com.sun.source.util.TreePathScanner;
import com.sun.source.util.Trees;
import java.util.List;
import java.util.Map;
import java.util.Set;
import java.util.TreeMap;
import java.util.TreeSet;
import javax.lang.model.element.Element;
import javax.tools.JavaCompiler;
import javax.tools.StandardJavaFileManager;
import javax.tools.ToolProvider;

/** The program's calls as the compiler understands them: of the library only what the language lists, none too deep. */
public final class CallRules {
    private static final int DEEPEST = 8;
    private static final int MOST_PARAMETERS = 7;
    private static final List<String> LISTED = List.of(
        "java\\.lang\\.String\\.(length|charAt|isEmpty|equals|indexOf|substring|toCharArray|<init>)",
        "java\\.lang\\.StringBuilder\\.(<init>|append|(set|delete)?[cC]harAt|setLength|reverse|length|toString)",
        "java\\.util\\.(Array)?List\\.(<init>|add|get|set|remove|size|isEmpty|clear|of)",
        "java\\.lang\\.(Integer|Long|Math)\\.(?!\\w*Exact)\\w+",
        "java\\.lang\\.System\\.arraycopy",
        "java\\.util\\.Arrays\\.(copyOf|copyOfRange|fill)",
        "java\\.lang\\.Object\\.<init>",
        "java\\.(util\\.NoSuchElement|lang\\.IllegalArgument)Exception\\.<init>");

    private static final Map<String, Set<String>> calls = new TreeMap<>();
    private static int wrong;

    private CallRules() {
    }

    public static void main(String[] args) throws Exception {
        JavaCompiler compiler = ToolProvider.getSystemJavaCompiler();
        try (StandardJavaFileManager files = compiler.getStandardFileManager(null, null, null)) {
            JavacTask task = (JavacTask) compiler.getTask(null, files, null, List.of("-proc:none"), null,
                files.getJavaFileObjects(args[0]));
            Iterable<? extends CompilationUnitTree> units = task.parse();
            task.analyze();
            new Reader(Trees.instance(task)).scan(units, null);
        }
        library();
        depth();
        System.out.println(wrong == 0 && !calls.isEmpty() ? "its calls are as the language asks" : wrong + " calls are not");
        System.exit(wrong == 0 && !calls.isEmpty() ? 0 : 1);
    }

    private static void say(String what) {
        wrong++;
        System.out.println(what);
    }

    private static boolean isOwn(String method) {
        return method.startsWith("ContraryChairs.");
    }

    private static boolean isListed(String method) {
        for (String listed : LISTED) {
            if (method.matches(listed)) {
                return true;
            }
        }
        return false;
    }

    private static void library() {
        for (Map.Entry<String, Set<String>> from : calls.entrySet()) {
            for (String to : from.getValue()) {
                if (!isOwn(to) && !isListed(to)) {
                    say(from.getKey() + " calls " + to + ", which is not listed");
                }
            }
        }
    }

    private static void depth() {
        Set<String> recursive = new TreeSet<>();
        for (String method : calls.keySet()) {
            if (reached(method, new TreeSet<>()).contains(method)) {
                recursive.add(method);
            }
        }
        for (String method : calls.keySet()) {
            List<String> chain = deepest(method, recursive);
            if (chain.size() > DEEPEST) {
                say(chain.size() + " calls deep: " + chain);
            }
        }
    }

    private static Set<String> reached(String from, Set<String> seen) {
        for (String to : calls.getOrDefault(from, Set.of())) {
            if (seen.add(to)) {
                reached(to, seen);
            }
        }
        return seen;
    }

    /** The longest chain of own calls from here on; a recursion's own steps have a rule of their own. */
    private static List<String> deepest(String from, Set<String> recursive) {
        List<String> longest = List.of();
        for (String to : calls.getOrDefault(from, Set.of())) {
            if (isOwn(to) && !(recursive.contains(from) && recursive.contains(to))) {
                List<String> chain = deepest(to, recursive);
                longest = chain.size() > longest.size() ? chain : longest;
            }
        }
        List<String> all = new java.util.ArrayList<>(longest);
        all.add(0, from);
        return all;
    }

    /** Notes who calls whom; what stands outside a method belongs to the making of its class. */
    private static final class Reader extends TreePathScanner<Void, Void> {
        private final Trees trees;
        private String maker = "";
        private String method = "";

        Reader(Trees trees) {
            this.trees = trees;
        }

        @Override
        public Void visitClass(ClassTree tree, Void nothing) {
            String outerMaker = maker;
            String outerMethod = method;
            maker = trees.getElement(getCurrentPath()) + ".<init>";
            method = maker;
            super.visitClass(tree, nothing);
            maker = outerMaker;
            method = outerMethod;
            return null;
        }

        @Override
        public Void visitMethod(MethodTree tree, Void nothing) {
            method = nameOf(trees.getElement(getCurrentPath()));
            calls.putIfAbsent(method, new TreeSet<>());
            if (tree.getParameters().size() > MOST_PARAMETERS) {
                say(method + " takes " + tree.getParameters().size() + " parameters");
            }
            super.visitMethod(tree, nothing);
            method = maker;
            return null;
        }

        @Override
        public Void visitMethodInvocation(MethodInvocationTree tree, Void nothing) {
            note(trees.getElement(getCurrentPath()));
            return super.visitMethodInvocation(tree, nothing);
        }

        @Override
        public Void visitNewClass(NewClassTree tree, Void nothing) {
            note(trees.getElement(getCurrentPath()));
            return super.visitNewClass(tree, nothing);
        }

        private void note(Element called) {
            calls.computeIfAbsent(method, m -> new TreeSet<>()).add(nameOf(called));
        }

        private static String nameOf(Element element) {
            return element.getEnclosingElement() + "." + element.getSimpleName();
        }
    }
}
