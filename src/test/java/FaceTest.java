import java.io.IOException;
import java.lang.reflect.Constructor;
import java.lang.reflect.Field;
import java.lang.reflect.Method;
import java.lang.reflect.Modifier;
import java.nio.file.Files;
import java.nio.file.Path;
import java.util.Map;
import java.util.TreeMap;
import java.util.regex.Pattern;

/** The public face, and those rules of LANGUAGE.md that can be looked up in the class or its text. */
public final class FaceTest {
    private static final Map<String, String> FACE = new TreeMap<>(Map.ofEntries(
        Map.entry("lay", "int int"), Map.entry("there", "int boolean"), Map.entry("permit", "int int"),
        Map.entry("input", "int"), Map.entry("node", "int int int int"), Map.entry("clear", ""),
        Map.entry("run", "int"), Map.entry("value", ""), Map.entry("where", ""), Map.entry("worked", ""),
        Map.entry("order", "int"), Map.entry("handle", "int int"), Map.entry("content", "int int"),
        Map.entry("size", "int"), Map.entry("printed", "int"), Map.entry("told", "int")));

    public static void main(String[] args) throws IOException {
        face();
        constants();
        inside();
        text();
        Check.finish();
    }

    private static void face() {
        Class<?> c = InputOutput.class;
        Check.holds("the class is public and final",
            Modifier.isPublic(c.getModifiers()) && Modifier.isFinal(c.getModifiers()));
        Constructor<?>[] made = c.getDeclaredConstructors();
        Check.due("constructors", made.length, 1);
        Check.holds("it is public, without parameters",
            Modifier.isPublic(made[0].getModifiers()) && made[0].getParameterCount() == 0);
        Map<String, String> found = new TreeMap<>();
        for (Method m : c.getDeclaredMethods()) {
            if (Modifier.isPublic(m.getModifiers())) {
                found.put(m.getName(), parameters(m));
                Check.holds(m + " answers int, not static",
                    m.getReturnType() == int.class && !Modifier.isStatic(m.getModifiers()));
            } else {
                Check.holds(m + " is private", Modifier.isPrivate(m.getModifiers()));
            }
        }
        Check.holds("the methods are those of the document: " + found, found.equals(FACE));
    }

    private static String parameters(Method m) {
        StringBuilder text = new StringBuilder();
        for (Class<?> p : m.getParameterTypes()) {
            text.append(text.length() == 0 ? "" : " ").append(p.getName());
        }
        return text.toString();
    }

    private static void constants() {
        Check.due("NONE", InputOutput.NONE, -1);
        Check.due("OUTSIDE", InputOutput.OUTSIDE, -2);
        Check.due("ROOM", InputOutput.ROOM, -3);
        int open = 0;
        for (Field f : InputOutput.class.getDeclaredFields()) {
            if (Modifier.isPublic(f.getModifiers())) {
                open++;
                Check.holds(f + " is a constant int", f.getType() == int.class
                    && Modifier.isStatic(f.getModifiers()) && Modifier.isFinal(f.getModifiers()));
            } else {
                Check.holds(f + " is private", Modifier.isPrivate(f.getModifiers()));
            }
        }
        Check.due("public fields", open, 3);
    }

    private static void inside() {
        Class<?>[] own = InputOutput.class.getDeclaredClasses();
        Check.holds("twelve classes at most", own.length + 1 <= 12);
        for (Class<?> c : own) {
            Check.holds(c + " is private and static",
                Modifier.isPrivate(c.getModifiers()) && Modifier.isStatic(c.getModifiers()));
            int fields = 0;
            for (Field f : c.getDeclaredFields()) {
                boolean fixed = Modifier.isStatic(f.getModifiers());
                Check.holds(f + " is final if it is static", !fixed || Modifier.isFinal(f.getModifiers()));
                fields += fixed ? 0 : 1;
            }
            Check.holds(c + " has twenty fields at most", fields <= 20);
            for (Method m : c.getDeclaredMethods()) {
                Check.holds(m + " has a name of its own", !FACE.containsKey(m.getName()));
                Check.holds(m + " has seven parameters at most", m.getParameterCount() <= 7);
            }
        }
    }

    private static void text() throws IOException {
        String text = Files.readString(Path.of("src/main/java/InputOutput.java"))
            .replaceAll("(?s)/\\*.*?\\*/", "").replaceAll("//[^\n]*", "");
        String[] refused = {"\\bpackage\\b", "\\bthrow\\b", "\\bthrows\\b", "\\btry\\b", "\\bcatch\\b", "\\bsynchronized\\b",
            "\\bassert\\b", "\\bprotected\\b", "->", "::", "\\bSystem\\.(?!arraycopy)", "\\bThread\\b",
            "\\bRandom\\b", "Exact\\b", "\\bstatic\\s*\\{", "\\b(equals|hashCode|toString)\\("};
        for (String r : refused) {
            Check.holds("the text is without " + r, !Pattern.compile(r).matcher(text).find());
        }
        for (String line : text.split("\n")) {
            Check.holds("only what is listed is imported: " + line,
                !line.startsWith("import ") || line.matches("import java\\.util\\.(Arrays|ArrayList|List);"));
        }
    }
}
