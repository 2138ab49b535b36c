import java.io.IOException;
import java.lang.reflect.Constructor;
import java.lang.reflect.Field;
import java.lang.reflect.Method;
import java.lang.reflect.Modifier;
import java.nio.charset.StandardCharsets;
import java.nio.file.Files;
import java.nio.file.Path;
import java.util.ArrayList;
import java.util.Arrays;
import java.util.List;
import java.util.Set;
import java.util.TreeSet;
import java.util.regex.Matcher;
import java.util.regex.Pattern;

/** The rules of LANGUAGE.md that can be seen from the class and its text. */
public final class LanguageTest {
    private static final Path SOURCE = Path.of("src/main/java/MissCurves.java");
    private static final String FACE = "of(2) top(2) key(3) terms(2) feed(5) end(1) row(0) blanks(0) policy(0) law(0) orders(0) fault(0) stopped(0) force(1) "
        + "read(2) loop(3) drop(2) pass(0) undo(0) misses(2) hull(2) bend(2) report(1) sign(1) guess(2) salted(2) share(2) best(2) replay(2) odd(1) "
        + "spilt(1) seen(2) forget(0) canBe(0) ask(1) few(2) compare(3) months(2) drawn(2) image(1) back(1) count(1) status(0)";
    private static final Set<String> LIBRARY = Set.of("Math.max", "Math.min", "Math.abs", "Arrays.fill", "Arrays.copyOf", "Arrays.copyOfRange",
        "System.arraycopy");
    private static int wrong = 0;

    private static void need(boolean so, String rule) {
        if (!so) {
            wrong++;
            System.out.println("LANGUAGE.md, rule " + rule);
        }
    }

    private static void face() {
        Class<?> type = MissCurves.class;
        need(Modifier.isPublic(type.getModifiers()) && Modifier.isFinal(type.getModifiers()), "1: public and final");
        Set<String> names = new TreeSet<>();
        Set<String> found = new TreeSet<>();
        for (Method m : type.getDeclaredMethods()) {
            boolean hidden = Modifier.isPrivate(m.getModifiers());
            need(hidden || Modifier.isPublic(m.getModifiers()), "1: " + m);
            if (!hidden) {
                found.add(m.getName() + "(" + m.getParameterCount() + ")");
                names.add(m.getName());
                boolean wide = m.getName().equals("hull") || m.getName().equals("few");
                need(m.getReturnType() == (wide ? long.class : int.class), "1: " + m);
                for (Class<?> p : m.getParameterTypes()) {
                    need(p == int.class, "1: " + m);
                }
            }
        }
        need(found.equals(new TreeSet<>(Arrays.asList(FACE.split(" ")))), "1: the face is " + found);
        Constructor<?>[] made = type.getDeclaredConstructors();
        need(made.length == 1 && Modifier.isPublic(made[0].getModifiers()) && made[0].getParameterCount() == 0, "1: one constructor");
        for (Field f : type.getDeclaredFields()) {
            need(f.getName().equals("NONE") ? Modifier.isPublic(f.getModifiers()) : Modifier.isPrivate(f.getModifiers()), "1: " + f);
        }
        List<Class<?>> all = new ArrayList<>(Arrays.asList(type.getDeclaredClasses()));
        all.add(type);
        need(all.size() <= 12, "11: " + all.size() + " classes");
        for (Class<?> c : all) {
            classInside(c, c == type, names);
        }
    }

    private static void classInside(Class<?> c, boolean outer, Set<String> names) {
        need(outer || Modifier.isStatic(c.getModifiers()) && !Modifier.isPublic(c.getModifiers()) && !Modifier.isProtected(c.getModifiers()), "1: " + c);
        int fields = 0;
        for (Field f : c.getDeclaredFields()) {
            boolean fixed = Modifier.isStatic(f.getModifiers());
            need(!fixed || Modifier.isFinal(f.getModifiers()), "5: " + f);
            fields += fixed ? 0 : 1;
        }
        need(fields <= 20, "11: " + fields + " fields in " + c);
        for (Method m : c.getDeclaredMethods()) {
            need(m.getParameterCount() <= 7, "11: " + m);
            need(!m.isSynthetic(), "2: " + m);
            need(outer && Modifier.isPublic(m.getModifiers()) || !names.contains(m.getName()), "1: " + m);
        }
    }

    /** The text without comments, strings and characters. */
    private static String bare(String text) {
        return text.replaceAll("(?s)/\\*.*?\\*/", "").replaceAll("//[^\n]*", "").replaceAll("\"[^\"\n]*\"", "\"\"").replaceAll("'.'", "' '");
    }

    private static void text() throws IOException {
        String whole = Files.readString(SOURCE, StandardCharsets.US_ASCII);
        String code = bare(whole);
        Matcher m = Pattern.compile("\\b(throw|throws|try|catch|finally|synchronized|assert|package|native|volatile|transient|toString|hashCode|"
            + "equals|protected|var|sealed|non-sealed|permits)\\b|->|::|@|Exact\\b|static \\{|\"\" *\\+|\\+ *\"\"").matcher(code);
        while (m.find()) {
            need(false, "2, 4 or 6: " + m.group());
        }
        Matcher imports = Pattern.compile("import ([^;]*);").matcher(code);
        while (imports.find()) {
            need(Set.of("java.util.Arrays", "java.util.ArrayList", "java.util.List", "java.util.Iterator").contains(imports.group(1)), "4: " + imports.group());
        }
        Matcher calls = Pattern.compile("\\b(Math|Arrays|System|Integer|Long|String|Character|Thread|Objects|Runtime)\\.\\w+").matcher(code);
        while (calls.find()) {
            need(LIBRARY.contains(calls.group()), "4: " + calls.group());
        }
        need(!Pattern.compile("\\bpublic\\b").matcher(code.substring(code.indexOf("private static final class"))).find(), "1: public inside");
        methodsAreShort(whole.split("\n"));
    }

    private static void methodsAreShort(String[] lines) {
        int began = -1;
        Pattern head = Pattern.compile("^ {4,8}(public|private|static|int|long|boolean|void|[A-Z]\\w*)[^;=]*\\) \\{$");
        for (int i = 0; i < lines.length; i++) {
            if (head.matcher(lines[i]).find() && began < 0) {
                began = i;
            } else if (began >= 0 && lines[i].equals(lines[began].replaceAll("\\S.*", "") + "}")) {
                need(i - began + 1 <= 60, "11: " + (i - began + 1) + " lines from line " + (began + 1));
                began = -1;
            }
            need(lines[i].length() <= 140, "a line of " + lines[i].length() + " signs: " + (i + 1));
        }
    }

    public static void main(String[] args) throws IOException {
        face();
        text();
        System.out.println(wrong == 0 ? "the rules of LANGUAGE.md that can be seen are kept" : wrong + " faults");
        if (wrong != 0) {
            System.exit(1);
        }
    }
}
