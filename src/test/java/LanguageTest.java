import java.io.IOException;
import java.lang.reflect.Constructor;
import java.lang.reflect.Field;
import java.lang.reflect.Method;
import java.lang.reflect.Modifier;
import java.nio.charset.StandardCharsets;
import java.nio.file.Files;
import java.nio.file.Path;
import java.util.Arrays;
import java.util.Map;
import java.util.Set;
import java.util.TreeMap;
import java.util.TreeSet;
import java.util.regex.Matcher;
import java.util.regex.Pattern;

/** The face of the document, and those rules of LANGUAGE.md that can be looked at from outside. */
public final class LanguageTest {
    private static int wrong = 0;

    public static void main(String[] args) throws Exception {
        Path source = args.length > 0 ? Path.of(args[0]) : Path.of("src/main/java/PoleSets.java");
        Path root = source.toAbsolutePath().normalize().getParent().getParent().getParent().getParent();
        String text = Files.readString(source, StandardCharsets.UTF_8);
        face(root.resolve("../shared/DOC.md"));
        words(text);
        library(text);
        methods(text);
        Class<?>[] inside = PoleSets.class.getDeclaredClasses();
        check(inside.length + 1 <= 12, "more than twelve classes");
        members(PoleSets.class);
        for (Class<?> each : inside) {
            check(Modifier.isStatic(each.getModifiers()), each + " is not static");
            check(!Modifier.isPublic(each.getModifiers()), each + " is public");
            members(each);
        }
        System.out.println(wrong == 0 ? "the language is kept to" : wrong + " rules are broken");
        if (wrong != 0) {
            System.exit(1);
        }
    }

    private static void check(boolean holds, String otherwise) {
        if (!holds) {
            wrong++;
            System.out.println(otherwise);
        }
    }

    /** Rule 1: what is public is what the document lists, and nothing else can be seen. */
    private static void face(Path document) throws IOException {
        Set<String> due = new TreeSet<>();
        for (String line : Files.readAllLines(document, StandardCharsets.UTF_8)) {
            Matcher m = Pattern.compile("^    public (\\w+) (\\w+)\\((.*)\\);$").matcher(line);
            if (m.find()) {
                due.add(m.group(1) + " " + m.group(2) + "(" + m.group(3).replaceAll(" \\w+(,|$)", "$1") + ")");
            }
        }
        Set<String> have = new TreeSet<>();
        Set<String> names = new TreeSet<>();
        for (Method m : PoleSets.class.getDeclaredMethods()) {
            if (Modifier.isPublic(m.getModifiers())) {
                names.add(m.getName());
                StringBuilder types = new StringBuilder();
                for (Class<?> type : m.getParameterTypes()) {
                    types.append(types.length() == 0 ? "" : ", ").append(type.getSimpleName());
                }
                have.add(m.getReturnType().getSimpleName() + " " + m.getName() + "(" + types + ")");
            }
        }
        check(due.size() == 45, "the document's face was not found: " + due.size());
        check(due.equals(have), "the face is " + have + ", due is " + due);
        for (Class<?> each : PoleSets.class.getDeclaredClasses()) {
            for (Method m : each.getDeclaredMethods()) {
                check(!names.contains(m.getName()), each + " has a method with a public name: " + m.getName());
            }
        }
        for (Method m : PoleSets.class.getDeclaredMethods()) {
            int mode = m.getModifiers();
            check(Modifier.isPublic(mode) || Modifier.isPrivate(mode), m + " can be seen");
            check(Modifier.isPublic(mode) || !names.contains(m.getName()), m + " has a public name");
        }
        Constructor<?>[] made = PoleSets.class.getDeclaredConstructors();
        check(made.length == 1 && made[0].getParameterCount() == 0, "other constructors");
        check(Modifier.isFinal(PoleSets.class.getModifiers()), "the class is not final");
    }

    /** Rules 2, 3, 4, 6, 13. */
    private static void words(String text) {
        String code = text.replaceAll("(?s)/\\*.*?\\*/", "").replaceAll("//[^\n]*", "");
        String[] never = {"throw", "throws", "try", "catch", "synchronized", "assert", "import", "package",
            "protected", "instanceof", "Object", "double", "float", "Random", "Thread", "System", "hashCode",
            "toString", "equals", "while"};
        for (String word : never) {
            check(!Pattern.compile("\\b" + word + "\\b").matcher(code).find(), "the word " + word);
        }
        check(!code.contains("->") && !code.contains("::"), "a lambda or a method reference");
        check(!code.contains("Exact("), "an exact function");
        check(text.chars().allMatch(c -> c < 128), "a sign above 127");
        Matcher divided = Pattern.compile("[/%] *([\\w.(]+)").matcher(code);
        while (divided.find()) {
            String by = divided.group(1);
            boolean safe = by.matches("[1-9]\\d*|THOUSAND|by");
            check(safe, "a division by " + by + " that is not looked at");
        }
    }

    /** Rule 4: of the library only the functions that it lists, and of Integer and Long no constants either. */
    private static void library(String text) {
        String code = text.replaceAll("(?s)/\\*.*?\\*/", "").replaceAll("//[^\n]*", "");
        Set<String> own = new TreeSet<>();
        for (Class<?> each : PoleSets.class.getDeclaredClasses()) {
            own.add(each.getSimpleName());
        }
        Matcher used = Pattern.compile("\\b([A-Z]\\w*[a-z]\\w*)\\b(\\.\\w+\\(?)?").matcher(code);
        while (used.find()) {
            String name = used.group(1);
            String member = used.group(2) == null ? "" : used.group(2);
            boolean ours = name.equals("PoleSets") || own.contains(name);
            boolean listed = name.matches("Math|Integer|Long") && member.matches("\\.[a-z]\\w*\\(");
            check(ours && member.isEmpty() || listed, "not of the library's list: " + name + member);
        }
        check(!own.isEmpty(), "no classes inside were found");
    }

    /** Rules 8 and 11: methods stay short, and calls go at most eight deep and never round. */
    private static void methods(String text) {
        String[] lines = text.split("\n");
        Pattern head = Pattern.compile("^(    |        )(?:[\\w\\[\\]]+ )+(\\w+)\\(.*\\) \\{$");
        Map<String, String> bodies = new TreeMap<>();
        for (int i = 0; i < lines.length; i++) {
            Matcher m = head.matcher(lines[i]);
            if (!m.find()) {
                continue;
            }
            int end = i;
            while (end < lines.length && !lines[end].equals(m.group(1) + "}")) {
                end++;
            }
            check(end - i < 60, "a long method: " + lines[i].trim());
            String body = String.join("\n", Arrays.copyOfRange(lines, i + 1, Math.min(end, lines.length)));
            bodies.merge(m.group(2), body, String::concat);
        }
        check(bodies.size() > 45, "no methods were found");
        for (String name : bodies.keySet()) {
            int deep = depth(name, bodies, 1);
            check(deep <= 8, name + " calls " + deep + " deep");
        }
    }

    /** How many calls stand open at once; methods of one name are taken for one, which only adds to it. */
    private static int depth(String name, Map<String, String> bodies, int open) {
        int deepest = open;
        Matcher called = Pattern.compile("\\b(\\w+)\\(").matcher(bodies.get(name));
        while (called.find() && deepest < 50) {
            if (bodies.containsKey(called.group(1))) {
                deepest = Math.max(deepest, depth(called.group(1), bodies, open + 1));
            }
        }
        return deepest;
    }

    /** Rules 5 and 11: twenty fields at most; static ones are final and plain. */
    private static void members(Class<?> of) {
        int fields = 0;
        for (Field f : of.getDeclaredFields()) {
            int mode = f.getModifiers();
            if (!Modifier.isStatic(mode)) {
                fields++;
                check(of != PoleSets.class || Modifier.isPrivate(mode), f + " can be seen");
                continue;
            }
            check(Modifier.isFinal(mode), f + " is not final");
            check(f.getType().isPrimitive(), f + " is no plain constant");
            check(of != PoleSets.class || Modifier.isPrivate(mode) || f.getName().equals("NONE"), f + " can be seen");
        }
        check(fields <= 20, of + " has " + fields + " fields");
        for (Method m : of.getDeclaredMethods()) {
            check(m.getParameterCount() <= 7, m + " takes too many");
        }
    }
}
