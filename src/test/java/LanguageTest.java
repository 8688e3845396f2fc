import java.io.IOException;
import java.lang.reflect.Constructor;
import java.lang.reflect.Field;
import java.lang.reflect.Method;
import java.lang.reflect.Modifier;
import java.nio.file.Files;
import java.nio.file.Path;
import java.util.ArrayList;
import java.util.List;
import java.util.Set;
import java.util.TreeSet;
import java.util.regex.Matcher;
import java.util.regex.Pattern;

/** The rules of LANGUAGE.md, as far as they can be seen from the file and the compiled class. */
public final class LanguageTest {
    private static final String[] FACE = {"int feed(int,int,int,int,int)", "int back(int)", "int read()", "int place()",
        "int cell(int,int)", "int stone(int,int)", "int lay(int,int)", "boolean lift(int)", "int turn(int)",
        "boolean pave(int)", "int seasons(int)", "boolean undo()", "int all()", "int rest()", "int across(int)",
        "int frozen(int)", "int more()", "int shortBy()", "int rank()", "int hill(int,int)", "int way(int)",
        "int farthest(int)", "int lowest(int)", "int turns(int)", "int cheapest(int)", "int widows(int,int)",
        "int then(int,int)", "int year(int,int)", "int tell(int,boolean)", "int forget()", "int fit(int,int)",
        "int look(int)", "boolean hold(int)", "boolean restore(int)", "int count(int)"};
    private static final String[] BANNED = {"\\bthrow\\b", "\\btry\\b", "\\bcatch\\b", "\\bsynchronized\\b", "\\bassert\\b",
        "->", "::", "\\bwhile\\s*\\(\\s*true", "for\\s*\\(\\s*;\\s*;", "\\bstatic\\s*\\{", "\\bvar\\b", "\\byield\\b",
        "\\bSystem\\.(?!arraycopy)", "\\bRandom\\b", "\\bThread\\b", "Exact\\b", "\\bObject\\b", "\\.toString\\b",
        "\\.hashCode\\b", "\\bpackage\\b", "\"\\s*\\+", "\\+\\s*\"", "\\bdouble\\b", "\\bfloat\\b"};

    private LanguageTest() {
    }

    public static void main(String[] args) throws IOException {
        Path file = Path.of(args.length > 0 ? args[0] : "src/main/java/CouplesPaving.java");
        String code = Files.readString(file);
        for (int i = 0; i < code.length(); i++) {
            Checks.due("a sign beyond 127 at " + i, code.charAt(i) < 128, true);
        }
        String bare = code.replaceAll("(?s)/\\*.*?\\*/", "").replaceAll("//[^\n]*", "").replaceAll("\"[^\"\n]*\"", "\"\"");
        banned(bare);
        methods(bare);
        face();
        classes();
        Checks.finish("LanguageTest");
    }

    private static void banned(String code) {
        for (String word : BANNED) {
            Matcher m = Pattern.compile(word).matcher(code);
            Checks.due("found '" + word + "'", m.find(), false);
        }
        Matcher imports = Pattern.compile("import ([^;]+);").matcher(code);
        while (imports.find()) {
            String name = imports.group(1);
            boolean fine = name.equals("java.util.Arrays") || name.equals("java.util.ArrayList") || name.equals("java.util.List");
            Checks.due("import " + name, fine, true);
        }
    }

    private static void methods(String code) {
        String[] lines = code.split("\n", -1);
        int start = -1;
        int depth = 0;
        int outer = 0;
        for (int i = 0; i < lines.length; i++) {
            boolean head = lines[i].matches("\\s+(?!.*\\b(new|return|else|class)\\b)[\\w\\[\\] ]+\\([^;]*\\) \\{")
                && !lines[i].trim().matches("(if|for|while|switch|\\}).*");
            if (head && start < 0) {
                start = i;
                outer = depth;
            }
            depth += lines[i].chars().filter(c -> c == '{').count() - lines[i].chars().filter(c -> c == '}').count();
            if (start >= 0 && depth == outer) {
                Checks.due("lines of " + lines[start].trim(), i - start + 1 <= 60, true);
                start = -1;
            }
        }
    }

    private static String told(Method m) {
        StringBuilder s = new StringBuilder(m.getReturnType().getSimpleName()).append(' ').append(m.getName()).append('(');
        for (int i = 0; i < m.getParameterCount(); i++) {
            s.append(i == 0 ? "" : ",").append(m.getParameterTypes()[i].getSimpleName());
        }
        return s.append(')').toString();
    }

    private static void face() {
        Set<String> due = new TreeSet<>(List.of(FACE));
        Set<String> found = new TreeSet<>();
        Set<String> names = new TreeSet<>();
        for (Method m : CouplesPaving.class.getDeclaredMethods()) {
            if (Modifier.isPublic(m.getModifiers())) {
                found.add(told(m));
                names.add(m.getName());
            } else {
                Checks.due(m + " is private", Modifier.isPrivate(m.getModifiers()), true);
            }
        }
        Checks.due("the public methods " + found, found.equals(due), true);
        List<Class<?>> all = new ArrayList<>(List.of(CouplesPaving.class.getDeclaredClasses()));
        all.add(CouplesPaving.class);
        for (Class<?> c : all) {
            for (Method m : c.getDeclaredMethods()) {
                boolean own = c == CouplesPaving.class && Modifier.isPublic(m.getModifiers());
                Checks.due(c.getSimpleName() + "." + m.getName() + " bears a public name", !own && names.contains(m.getName()), false);
                Checks.due(m.getName() + " has at most 7 parameters", m.getParameterCount() <= 7, true);
            }
        }
        Constructor<?>[] made = CouplesPaving.class.getDeclaredConstructors();
        Checks.due("constructors", made.length, 1);
        Checks.due("its parameters", made[0].getParameterCount(), 0);
        for (Field f : CouplesPaving.class.getDeclaredFields()) {
            Checks.due(f.getName() + " is private or NONE", Modifier.isPrivate(f.getModifiers()) || f.getName().equals("NONE"), true);
        }
        Checks.due("NONE", CouplesPaving.NONE, -1);
        Checks.due("the class is public and final", CouplesPaving.class.getModifiers() & (Modifier.PUBLIC | Modifier.FINAL),
            Modifier.PUBLIC | Modifier.FINAL);
    }

    private static void classes() {
        Class<?>[] inside = CouplesPaving.class.getDeclaredClasses();
        Checks.due("at most 12 classes", inside.length + 1 <= 12, true);
        List<Class<?>> all = new ArrayList<>(List.of(inside));
        all.add(CouplesPaving.class);
        for (Class<?> c : all) {
            if (c != CouplesPaving.class) {
                Checks.due(c + " is static", Modifier.isStatic(c.getModifiers()), true);
                Checks.due(c + " is not public", (c.getModifiers() & (Modifier.PUBLIC | Modifier.PROTECTED)) == 0, true);
            }
            int fields = 0;
            for (Field f : c.getDeclaredFields()) {
                boolean isStatic = Modifier.isStatic(f.getModifiers());
                fields += isStatic ? 0 : 1;
                Checks.due(f + " is static and not final", isStatic && !Modifier.isFinal(f.getModifiers()), false);
            }
            Checks.due("fields of " + c.getSimpleName(), fields <= 20, true);
        }
    }
}
