import java.io.IOException;
import java.lang.reflect.Constructor;
import java.lang.reflect.Field;
import java.lang.reflect.Method;
import java.lang.reflect.Modifier;
import java.nio.file.Files;
import java.nio.file.Path;
import java.util.ArrayDeque;
import java.util.Arrays;
import java.util.Deque;
import java.util.Set;
import java.util.TreeSet;
import java.util.regex.Matcher;
import java.util.regex.Pattern;

/** The face just as the document tells it, and the rules of LANGUAGE.md that can be seen from outside. */
public final class FaceTest {
    private static final String SOURCE = "src/main/java/SoftAsks.java";
    private static final Set<String> METHODS = new TreeSet<>(Arrays.asList(
        "int write(int)", "int wipe()", "int fault()", "int day()", "int about(int)", "int set(int, int)",
        "int turn(int)", "int undo()", "int ask(int, int)", "int host(int, int)", "int total(int)",
        "int stand(int, int, int)", "int best(int)", "int judge(int, long)", "int see(int, int)", "int unsee()",
        "int which()", "int share(int, boolean)", "int calm(int, boolean)", "long seed(long)", "int drawn(int)",
        "int keep(int)", "int again(int)"));
    private static int wrong = 0;

    private static void check(boolean so, String what) {
        if (!so) {
            wrong++;
            System.out.println("not so: " + what);
        }
    }

    public static void main(String[] args) throws Exception {
        face();
        constants();
        nested();
        source();
        asTheDocumentHasIt();
        System.out.println(wrong == 0 ? "face: all as due" : "face: " + wrong + " wrong");
        if (wrong != 0) {
            System.exit(1);
        }
    }

    private static void face() {
        Class<?> c = SoftAsks.class;
        check(Modifier.isPublic(c.getModifiers()) && Modifier.isFinal(c.getModifiers()), "public final class");
        check(c.getSuperclass() == Object.class && c.getInterfaces().length == 0, "of no other class or interface");
        Constructor<?>[] all = c.getDeclaredConstructors();
        check(all.length == 1 && Modifier.isPublic(all[0].getModifiers()) && all[0].getParameterCount() == 0,
            "one public constructor without parameters");
        Set<String> found = new TreeSet<>(), names = new TreeSet<>(), hidden = new TreeSet<>();
        for (Method m : c.getDeclaredMethods()) {
            if (Modifier.isPrivate(m.getModifiers())) {
                hidden.add(m.getName());
                continue;
            }
            names.add(m.getName());
            String parameters = Arrays.toString(m.getParameterTypes()).replace("[", "").replace("]", "");
            found.add(m.getReturnType() + " " + m.getName() + "(" + parameters + ")");
            check(m.getModifiers() == Modifier.PUBLIC, m.getName() + " is public, and no more");
            check(m.getExceptionTypes().length == 0, m.getName() + " tells of no exception");
        }
        check(found.equals(METHODS), "the methods are " + found);
        hidden.retainAll(names);
        check(hidden.isEmpty(), "private methods have other names: " + hidden);
    }

    /** Each line of the document's face stands in the source, by its parameters' names too, and in its order. */
    private static void asTheDocumentHasIt() throws IOException {
        String doc = new String(Files.readAllBytes(Path.of("../shared/DOC.md")), java.nio.charset.StandardCharsets.UTF_8);
        String source = new String(Files.readAllBytes(Path.of(SOURCE)), java.nio.charset.StandardCharsets.UTF_8);
        Matcher face = Pattern.compile("(?s)```java\n(public final class SoftAsks \\{.*?)\n\\}").matcher(doc);
        check(face.find(), "the document has a face");
        int place = 0;
        String[] lines = face.group(1).split("\n");
        for (String line : lines) {
            String told = line.trim();
            String due = told.endsWith(");") ? told.substring(0, told.length() - 1) + " {" : told;
            int at = source.indexOf(due, place);
            check(at >= place, "the source has, in its order: " + told);
            place = Math.max(place, at);
        }
        check(lines.length == METHODS.size() + 3, "the class, its constants, its constructor, its methods");
    }

    private static void constants() throws Exception {
        String[] names = {"UNKNOWN", "BAD", "LATE", "FULL", "NONE"};
        int[] values = {-1, -2, -3, -4, -9};
        int open = 0;
        for (Field f : SoftAsks.class.getDeclaredFields()) {
            open += Modifier.isPrivate(f.getModifiers()) ? 0 : 1;
            check(!Modifier.isStatic(f.getModifiers()) || Modifier.isFinal(f.getModifiers()), f.getName() + " is final");
        }
        check(open == names.length, "no field is open but the constants");
        for (int i = 0; i < names.length; i++) {
            Field f = SoftAsks.class.getField(names[i]);
            check(f.getType() == int.class && f.getInt(null) == values[i], names[i] + " is " + values[i]);
        }
    }

    private static void nested() {
        Class<?>[] inside = SoftAsks.class.getDeclaredClasses();
        check(inside.length < 12, "some twelve classes at most");
        for (Class<?> c : inside) {
            check(Modifier.isStatic(c.getModifiers()) && !Modifier.isPublic(c.getModifiers()), c + " is static");
            int fields = 0;
            for (Field f : c.getDeclaredFields()) {
                fields += Modifier.isStatic(f.getModifiers()) ? 0 : 1;
            }
            check(fields <= 20, c + " has " + fields + " fields");
            for (Method m : c.getDeclaredMethods()) {
                check(m.getParameterCount() <= 7, m + " has few parameters");
            }
        }
    }

    private static void source() throws IOException {
        String text = new String(Files.readAllBytes(Path.of(SOURCE)), java.nio.charset.StandardCharsets.UTF_8);
        check(text.chars().allMatch(c -> c < 128), "plain letters alone");
        String code = text.replaceAll("(?s)/\\*.*?\\*/", "").replaceAll("//[^\n]*", "");
        String[] never = {"throw", "throws", "try", "catch", "finally", "synchronized", "assert", "package", "protected",
            "Float", "Double", "String", "Object", "Exact", "Random", "Thread", "hashCode", "equals", "toString", "var"};
        for (String word : never) {
            check(!Pattern.compile("\\b" + word + "\\b").matcher(code).find(), "no " + word);
        }
        check(!code.contains("->") && !code.contains("::"), "no lambda, no method reference");
        Matcher imports = Pattern.compile("import ([\\w.]+);").matcher(code);
        while (imports.find()) {
            check(imports.group(1).equals("java.util.Arrays"), "no import of " + imports.group(1));
        }
        Matcher library = Pattern.compile("\\b(System|Arrays|Math|Integer|Long)\\.(\\w+)").matcher(code);
        Set<String> allowed = new TreeSet<>(Arrays.asList("System.arraycopy", "Arrays.fill", "Math.min", "Math.max",
            "Math.abs", "Integer.bitCount"));
        while (library.find()) {
            check(allowed.contains(library.group()), "no " + library.group());
        }
        lengths(code);
    }

    /** Each block that hangs on a parameter list and stands in a class is a method. */
    private static void lengths(String code) {
        Deque<int[]> open = new ArrayDeque<>();
        int line = 1;
        for (int i = 0; i < code.length(); i++) {
            char c = code.charAt(i);
            if (c == '\n') {
                line++;
            } else if (c == '{') {
                String head = code.substring(Math.max(0, code.lastIndexOf('\n', i) + 1), i).trim();
                boolean method = head.endsWith(")") && !head.matches("(\\} )?(else )?(if|for|while|switch).*");
                open.push(new int[] {line, method ? 1 : 0});
            } else if (c == '}' && !open.isEmpty()) {
                int[] begun = open.pop();
                check(begun[1] == 0 || line - begun[0] <= 60, "the method at line " + begun[0] + " is short");
            }
        }
    }
}
