import java.io.IOException;
import java.lang.reflect.Constructor;
import java.lang.reflect.Field;
import java.lang.reflect.Method;
import java.lang.reflect.Modifier;
import java.nio.file.Files;
import java.nio.file.Path;
import java.util.ArrayList;
import java.util.List;
import java.util.Set;
import java.util.TreeSet;
import java.util.regex.Matcher;
import java.util.regex.Pattern;

/** The public face of the document, and the rules of the language that can be seen from outside or in the text. */
public final class TankFieldFace {
    private static final Path PROGRAM = Path.of("src/main/java/TankField.java");
    private static final Path DOCUMENT = Path.of("../shared/DOC.md");

    private static int wrong;

    public static void main(String[] args) throws IOException {
        String text = withoutComments(Files.readString(PROGRAM));
        face(Files.readString(DOCUMENT));
        names();
        classes();
        words(text);
        lengths(text);
        System.out.println(wrong == 0 ? "the face and the language are as told" : wrong + " wrong");
        if (wrong != 0) {
            System.exit(1);
        }
    }

    private static void check(String what, boolean holds) {
        if (!holds) {
            wrong++;
            System.out.println("broken: " + what);
        }
    }

    private static String withoutComments(String text) {
        return text.replaceAll("(?s)/\\*.*?\\*/", "").replaceAll("//[^\n]*", "");
    }

    /** What the document's face declares, as 'int tank(int,int)'. */
    private static Set<String> declared(String document) {
        String face = document.substring(document.indexOf("```java"), document.indexOf("## Terms"));
        Matcher m = Pattern.compile("public (int|long) (\\w+)\\(([^)]*)\\);").matcher(face);
        Set<String> found = new TreeSet<>();
        while (m.find()) {
            String types = m.group(3).replaceAll("(\\w+) \\w+", "$1").replace(" ", "");
            found.add(m.group(1) + " " + m.group(2) + "(" + types + ")");
        }
        return found;
    }

    private static String signature(Method m) {
        List<String> types = new ArrayList<>();
        for (Class<?> type : m.getParameterTypes()) {
            types.add(type.getName());
        }
        return m.getReturnType().getName() + " " + m.getName() + "(" + String.join(",", types) + ")";
    }

    private static void face(String document) {
        Set<String> open = new TreeSet<>();
        for (Method m : TankField.class.getDeclaredMethods()) {
            if (!Modifier.isPrivate(m.getModifiers())) {
                check(m + " is public and of an object",
                        Modifier.isPublic(m.getModifiers()) && !Modifier.isStatic(m.getModifiers()));
                open.add(signature(m));
            }
        }
        Set<String> due = declared(document);
        check("29 methods are declared, not " + due.size(), due.size() == 29);
        check("methods are " + open + ", due are " + due, open.equals(due));
        Set<String> constants = new TreeSet<>();
        for (Field f : TankField.class.getDeclaredFields()) {
            if (!Modifier.isPrivate(f.getModifiers())) {
                constants.add(f.getType() + " " + f.getName());
            }
        }
        check("constants are " + constants, constants.equals(Set.of("int UNKNOWN", "int OUTSIDE", "int STATE",
                "int FULL", "int NONE", "long LOST")));
        Constructor<?>[] makers = TankField.class.getDeclaredConstructors();
        check("one public constructor", makers.length == 1 && Modifier.isPublic(makers[0].getModifiers()));
        check("the class is final and public", Modifier.isFinal(TankField.class.getModifiers())
                && Modifier.isPublic(TankField.class.getModifiers()));
    }

    private static void names() {
        Set<String> open = new TreeSet<>();
        for (Method m : TankField.class.getMethods()) {
            open.add(m.getName());
        }
        List<Class<?>> all = new ArrayList<>(List.of(TankField.class.getDeclaredClasses()));
        all.add(TankField.class);
        for (Class<?> c : all) {
            for (Method m : c.getDeclaredMethods()) {
                boolean isFace = c == TankField.class && Modifier.isPublic(m.getModifiers());
                check(m + " bears a public name", isFace || !open.contains(m.getName()));
                check(m + " takes more than seven", m.getParameterCount() <= 7);
            }
        }
    }

    private static void classes() {
        Class<?>[] inside = TankField.class.getDeclaredClasses();
        check("at most twelve classes", inside.length < 12);
        for (Class<?> c : inside) {
            check(c + " is static", Modifier.isStatic(c.getModifiers()));
            check(c + " is not open", !Modifier.isPublic(c.getModifiers()) && !Modifier.isProtected(c.getModifiers()));
            check(c + " has no class inside", c.getDeclaredClasses().length == 0);
            fields(c);
        }
        fields(TankField.class);
    }

    private static void fields(Class<?> c) {
        int own = 0;
        for (Field f : c.getDeclaredFields()) {
            if (Modifier.isStatic(f.getModifiers())) {
                check(f + " is final", Modifier.isFinal(f.getModifiers()));
            } else {
                own++;
            }
        }
        check(c + " has " + own + " fields", own <= 20);
    }

    private static void words(String text) {
        String[] ruledOut = {"throw", "throws", "try", "catch", "finally", "synchronized", "assert", "float", "double",
            "Object", "record", "var", "Random", "Thread", "System", "Exact", "protected", "volatile", "transient"};
        for (String word : ruledOut) {
            check("the word " + word, !Pattern.compile("\\b" + word + "\\b").matcher(text).find());
        }
        check("a name that ends in Exact", !text.contains("Exact("));
        check("a lambda or a method reference", !text.contains("->") && !text.contains("::"));
        check("no text but in comments", !text.contains("\""));
        check("no package", !text.contains("package "));
        Matcher m = Pattern.compile("import ([^;]+);").matcher(text);
        while (m.find()) {
            check("import " + m.group(1), m.group(1).equals("java.util.Arrays"));
        }
        m = Pattern.compile("Arrays\\.(\\w+)|Math\\.(\\w+)").matcher(text);
        while (m.find()) {
            check(m.group(), Set.of("Arrays.fill", "Math.abs", "Math.min", "Math.max").contains(m.group()));
        }
        check("objects are made in constructors alone", objectsAreMadeEarly(text));
    }

    /** Every 'new' stands in a field's initialiser, so that a run's room does not grow with its calls. */
    private static boolean objectsAreMadeEarly(String text) {
        for (String line : text.split("\n")) {
            if (line.contains("new ") && !line.trim().startsWith("private ") && !line.trim().startsWith("final ")) {
                System.out.println("  " + line.trim());
                return false;
            }
        }
        return true;
    }

    /** A method begins with a line that ends in ') {' and stands at a member's depth, and ends with its brace. */
    private static void lengths(String text) {
        String[] lines = text.split("\n");
        for (int i = 0; i < lines.length; i++) {
            Matcher m = Pattern.compile("^( {4}| {8})(public|private|final|static) .*\\) \\{$").matcher(lines[i]);
            if (!m.find()) {
                continue;
            }
            int end = i;
            while (end < lines.length && !lines[end].equals(m.group(1) + "}")) {
                end++;
            }
            check("method is too long: " + lines[i].trim(), end - i < 60);
        }
    }
}
