import java.io.ByteArrayOutputStream;
import java.io.IOException;
import java.io.OutputStream;
import java.io.StringWriter;
import java.net.URI;
import java.nio.file.Files;
import java.nio.file.Path;
import java.util.ArrayList;
import java.util.HashMap;
import java.util.List;
import java.util.Map;
import java.util.TreeMap;
import java.util.concurrent.Callable;
import java.util.concurrent.ExecutorService;
import java.util.concurrent.Executors;
import java.util.concurrent.Future;
import java.util.regex.Matcher;
import java.util.regex.Pattern;
import javax.tools.FileObject;
import javax.tools.ForwardingJavaFileManager;
import javax.tools.JavaCompiler;
import javax.tools.JavaFileManager;
import javax.tools.JavaFileObject;
import javax.tools.SimpleJavaFileObject;
import javax.tools.StandardJavaFileManager;
import javax.tools.ToolProvider;

/**
 * A tool, no test: breaks the class in one place at a time, and asks which sentences then fail.
 * It tells the breaks that no sentence sees, and the sentences that no break breaks: a test that can not fail.
 * java -cp CLASSES Mutants src/main/java/CouplesPaving.java CLASSES [FROM-LINE TO-LINE]
 */
public final class Mutants {
    private static final long MOST_MILLIS = 20000;
    private static final String[][] SWAPS = {
        {"<=", "<", "=="}, {">=", ">", "=="}, {"==", "!="}, {"!=", "=="}, {"&&", "||"}, {"||", "&&"},
        {"<", "<=", ">="}, {">", ">=", "<="}, {"+", "-"}, {"-", "+"}, {"*", "+"}, {"/", "*"}, {"%", "/"},
        {">>>", ">>"}, {"++", "--"}, {"--", "++"}, {"+=", "-="}, {"-=", "+="}, {"|=", "&="}, {"&", "|"}, {"|", "&"}, {"^", "|"},
        {"~", ""}, {"!", ""}, {"true", "false"}, {"false", "true"}, {"max", "min"}, {"min", "max"}};
    private static final Pattern PIECE = Pattern.compile("/\\*[\\s\\S]*?\\*/|//[^\\n]*|\"[^\"\\n]*\"|'[^'\\n]*'|[A-Za-z_]\\w*|\\d+"
        + "|>>>|<=|>=|==|!=|&&|\\|\\||\\+\\+|--|\\+=|-=|\\|=|[-+*/%<>&|^~!]|\\s+|.");

    /** One break: what stands from .. to is replaced. */
    static final class Break {
        final int from;
        final int to;
        final String by;

        Break(int from, int to, String by) {
            this.from = from;
            this.to = to;
            this.by = by;
        }
    }

    private Mutants() {
    }

    public static void main(String[] args) throws Exception {
        String code = Files.readString(Path.of(args[0]));
        int firstLine = args.length > 2 ? Integer.parseInt(args[2]) : 1;
        int lastLine = args.length > 3 ? Integer.parseInt(args[3]) : Integer.MAX_VALUE;
        Path classes = Path.of(args[1]);
        List<Break> breaks = new ArrayList<>();
        for (Break b : breaks(code)) {
            int line = line(code, b.from);
            if (line >= firstLine && line <= lastLine) {
                breaks.add(b);
            }
        }
        ExecutorService workers = Executors.newFixedThreadPool(Runtime.getRuntime().availableProcessors(), Mutants::daemon);
        List<Future<String[]>> results = new ArrayList<>();
        for (Break b : breaks) {
            Callable<String[]> one = () -> brokenBy(code.substring(0, b.from) + b.by + code.substring(b.to), classes);
            results.add(workers.submit(one));
        }
        tell(code, breaks, results, sentences());
        System.exit(0);
    }

    private static void tell(String code, List<Break> breaks, List<Future<String[]>> results, Map<String, Integer> seen)
            throws Exception {
        int unseen = 0;
        int refused = 0;
        for (int i = 0; i < breaks.size(); i++) {
            String[] broken = results.get(i).get();
            if (broken == null) {
                refused++;
            } else if (broken.length == 0) {
                unseen++;
                Break b = breaks.get(i);
                int line = line(code, b.from);
                System.out.println("no sentence sees, line " + line + ": " + code.split("\n", -1)[line - 1].trim()
                    + "   [" + code.substring(b.from, b.to).trim() + " -> " + b.by + "]");
            } else {
                for (String name : broken) {
                    seen.merge(name, 1, Integer::sum);
                }
            }
        }
        System.out.println(breaks.size() + " breaks, " + refused + " that javac refuses, " + unseen + " that no sentence sees");
        for (Map.Entry<String, Integer> e : seen.entrySet()) {
            System.out.println(e.getValue() + " breaks are seen by " + e.getKey());
        }
    }

    private static Thread daemon(Runnable r) {
        Thread t = new Thread(null, r, "worker", 1 << 24);
        t.setDaemon(true);
        return t;
    }

    private static Map<String, Integer> sentences() {
        Map<String, Integer> seen = new TreeMap<>();
        for (Sentences.Sentence s : Sentences.ofAll().all()) {
            seen.put(s.name(), 0);
        }
        return seen;
    }

    private static int line(String code, int at) {
        return (int) code.substring(0, at).chars().filter(c -> c == '\n').count() + 1;
    }

    private static List<Break> breaks(String code) {
        List<Break> breaks = new ArrayList<>();
        Matcher m = PIECE.matcher(code);
        while (m.find()) {
            String piece = m.group();
            if (piece.matches("\\d+")) {
                long n = Long.parseLong(piece);
                breaks.add(new Break(m.start(), m.end(), Long.toString(n + 1)));
                if (n > 0) {
                    breaks.add(new Break(m.start(), m.end(), Long.toString(n - 1)));
                }
            }
            for (String[] swap : SWAPS) {
                for (int i = 1; i < swap.length && piece.equals(swap[0]); i++) {
                    breaks.add(new Break(m.start(), m.end(), swap[i]));
                }
            }
        }
        withoutStatements(code, breaks);
        return breaks;
    }

    // A statement on a line of its own, and a condition of an if, each left out.
    private static void withoutStatements(String code, List<Break> breaks) {
        Matcher m = Pattern.compile("(?m)^ +((?!return|private|static|final|int |boolean |String |State |Text |break|continue|import)[^{}\\n]*;)$").matcher(code);
        while (m.find()) {
            breaks.add(new Break(m.start(1), m.end(1), ";"));
        }
        m = Pattern.compile("\\bif \\(([^\\n]*)\\) \\{").matcher(code);
        while (m.find()) {
            breaks.add(new Break(m.start(1), m.end(1), "(" + m.group(1) + ") && System.nanoTime() == 0"));
            breaks.add(new Break(m.start(1), m.end(1), "(" + m.group(1) + ") || System.nanoTime() != 0"));
        }
    }

    // ---- one broken class, compiled and asked

    private static final class Held extends SimpleJavaFileObject {
        private final String code;
        private final ByteArrayOutputStream bytes = new ByteArrayOutputStream();

        Held(String name, Kind kind, String code) {
            super(URI.create("string:///" + name + kind.extension), kind);
            this.code = code;
        }

        @Override
        public CharSequence getCharContent(boolean ignore) {
            return code;
        }

        @Override
        public OutputStream openOutputStream() {
            return bytes;
        }
    }

    private static final class Memory extends ForwardingJavaFileManager<StandardJavaFileManager> {
        final Map<String, Held> made = new HashMap<>();

        Memory(StandardJavaFileManager manager) {
            super(manager);
        }

        @Override
        public JavaFileObject getJavaFileForOutput(Location where, String name, JavaFileObject.Kind kind, FileObject sibling) {
            Held held = new Held(name, kind, "");
            made.put(name, held);
            return held;
        }
    }

    private static final class Loader extends ClassLoader {
        private final Map<String, Held> made;
        private final Path classes;

        Loader(Map<String, Held> made, Path classes) {
            super(ClassLoader.getPlatformClassLoader());
            this.made = made;
            this.classes = classes;
        }

        @Override
        protected Class<?> findClass(String name) throws ClassNotFoundException {
            try {
                boolean own = name.equals("CouplesPaving") || name.startsWith("CouplesPaving$");
                if (own && !made.containsKey(name)) {
                    throw new ClassNotFoundException(name);
                }
                byte[] bytes = own ? made.get(name).bytes.toByteArray() : Files.readAllBytes(classes.resolve(name + ".class"));
                return defineClass(name, bytes, 0, bytes.length);
            } catch (IOException e) {
                throw new ClassNotFoundException(name, e);
            }
        }
    }

    @SuppressWarnings("deprecation")
    private static void end(Thread t) {
        if (t.isAlive()) {
            t.stop();
        }
    }

    /** The names of the broken sentences; null if javac refuses the code. */
    private static String[] brokenBy(String code, Path classes) throws Exception {
        JavaCompiler javac = ToolProvider.getSystemJavaCompiler();
        Memory memory = new Memory(javac.getStandardFileManager(null, null, null));
        Held source = new Held("CouplesPaving", JavaFileObject.Kind.SOURCE, code);
        boolean sound = javac.getTask(new StringWriter(), (JavaFileManager) memory,
            null, List.of("-proc:none"), null, List.of(source)).call();
        if (!sound) {
            return null;
        }
        String[][] found = {{"no end in time"}};
        Thread t = daemon(() -> {
            try {
                Class<?> sentences = new Loader(memory.made, classes).loadClass("Sentences");
                var broken = sentences.getDeclaredMethod("broken");
                broken.setAccessible(true);
                found[0] = (String[]) broken.invoke(null);
            } catch (ReflectiveOperationException | LinkageError e) {
                found[0] = new String[] {"fails as a whole: " + e.getCause()};
            }
        });
        t.start();
        t.join(MOST_MILLIS);
        end(t);
        return found[0];
    }
}
