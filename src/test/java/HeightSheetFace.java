import java.io.IOException;
import java.lang.reflect.Constructor;
import java.lang.reflect.Field;
import java.lang.reflect.Method;
import java.lang.reflect.Modifier;
import java.nio.charset.StandardCharsets;
import java.nio.file.Files;
import java.nio.file.Path;
import java.util.List;
import java.util.Set;
import java.util.TreeSet;
import java.util.regex.Matcher;
import java.util.regex.Pattern;

/** The class shows what the document's face tells and no more, and keeps to what can be seen of LANGUAGE.md. */
public final class HeightSheetFace {
    /** As the document writes them: "feed(int c)". */
    private static final List<String> FACE = Document.face();
    private static final String FORBIDDEN =
            "\\b(throw|throws|try|catch|synchronized|assert|Object|null\\s*\\(|static\\s*\\{|equals|hashCode|toString|\\w+Exact)\\b|->|::";
    private static int wrong = 0;

    private static void check(boolean holds, String what) {
        if (!holds) {
            wrong++;
            System.out.println("does not hold: " + what);
        }
    }

    public static void main(String[] args) throws IOException {
        methods();
        fieldsAndConstructor();
        classesInside();
        source();
        System.out.println(wrong == 0 ? "the face is as told" : wrong + " things are not as told");
        if (wrong != 0) System.exit(1);
    }

    private static void methods() {
        Set<String> seen = new TreeSet<>();
        Set<String> due = new TreeSet<>();
        for (String call : FACE) due.add(nameOf(call) + " " + parametersOf(call));
        for (Method m : HeightSheet.class.getDeclaredMethods()) {
            if (Modifier.isPublic(m.getModifiers())) {
                seen.add(m.getName() + " " + m.getParameterCount());
                check(m.getReturnType() == int.class, m.getName() + " answers an int");
                for (Class<?> p : m.getParameterTypes()) check(p == int.class, m.getName() + " takes ints");
            } else {
                check(Modifier.isPrivate(m.getModifiers()), m.getName() + " is private");
                check(!isOfFace(m.getName()), m.getName() + " bears no public name");
            }
        }
        check(seen.equals(due), "the public methods are those of the face");
    }

    private static String nameOf(String call) {
        return call.substring(0, call.indexOf('('));
    }

    private static int parametersOf(String call) {
        return call.endsWith("()") ? 0 : call.split(",").length;
    }

    private static boolean isOfFace(String name) {
        return FACE.stream().anyMatch(call -> nameOf(call).equals(name));
    }

    private static void fieldsAndConstructor() {
        Set<String> seen = new TreeSet<>();
        for (Field f : HeightSheet.class.getDeclaredFields()) {
            int m = f.getModifiers();
            if (Modifier.isPublic(m)) seen.add(f.getName());
            else check(Modifier.isPrivate(m), f.getName() + " is private");
            check(!Modifier.isStatic(m) || Modifier.isFinal(m), f.getName() + " is final, if static");
        }
        check(seen.equals(Set.of("BAD", "STATE", "FULL", "NONE")), "the constants are those of the face");
        check(HeightSheet.BAD == -1 && HeightSheet.STATE == -2 && HeightSheet.FULL == -3 && HeightSheet.NONE == -4,
                "the constants are as told");
        Constructor<?>[] all = HeightSheet.class.getDeclaredConstructors();
        check(all.length == 1 && all[0].getParameterCount() == 0 && Modifier.isPublic(all[0].getModifiers()),
                "there is one constructor, public and without parameters");
        check(Modifier.isFinal(HeightSheet.class.getModifiers()), "the class is final");
    }

    private static void classesInside() {
        Class<?>[] inside = HeightSheet.class.getDeclaredClasses();
        check(inside.length < 12, "there are few classes");
        for (Class<?> c : inside) {
            int m = c.getModifiers();
            check(Modifier.isStatic(m) && !Modifier.isPublic(m) && !Modifier.isProtected(m), c + " is static and not shown");
            check(c.getDeclaredFields().length <= 20, c + " has few fields");
            for (Method method : c.getDeclaredMethods()) {
                check(method.getParameterCount() <= 7, method + " takes few parameters");
                check(!isOfFace(method.getName()), method + " bears no public name");
            }
        }
    }

    private static void source() throws IOException {
        String text = Files.readString(Path.of("src/main/java/HeightSheet.java"), StandardCharsets.ISO_8859_1);
        check(text.chars().allMatch(b -> b == '\n' || b >= 32 && b < 127), "the source is plain");
        String code = text.replaceAll("(?s)/\\*.*?\\*/", "").replaceAll("//[^\n]*", "").replaceAll("\"[^\"\n]*\"", "\"\"");
        Matcher m = Pattern.compile(FORBIDDEN).matcher(code);
        while (m.find()) check(false, "no '" + m.group() + "' in the source");
        m = Pattern.compile("import ([\\w.]+);").matcher(code);
        while (m.find()) check(m.group(1).equals("java.util.Arrays"), "no import of " + m.group(1));
        check(code.lines().allMatch(line -> line.length() <= 130), "no line is long");
        for (String call : FACE) check(code.contains("\n    public int " + call + " {\n"), call + " is written as the face has it");
        methodsAreShort(text.split("\n"));
    }

    /** From the line that opens a method to the one that closes it, which stands as far in. */
    private static void methodsAreShort(String[] lines) {
        int methods = 0;
        for (int from = 0; from < lines.length; from++) {
            Matcher head = Pattern.compile("( +)(?:private|public) [^=]*\\) \\{").matcher(lines[from]);
            if (head.matches()) {
                int to = from;
                while (to < lines.length && !lines[to].equals(head.group(1) + "}")) to++;
                check(to - from < 60, "few lines in" + lines[from]);
                methods++;
            }
        }
        check(methods >= FACE.size(), "the methods are found in the source");
    }
}
