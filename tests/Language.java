import java.lang.reflect.Field;
import java.lang.reflect.Method;
import java.lang.reflect.Modifier;
import java.nio.charset.StandardCharsets;
import java.nio.file.Files;
import java.nio.file.Paths;
import java.util.Arrays;
import java.util.HashSet;
import java.util.List;
import java.util.Set;
import java.util.TreeSet;

/** What of ../shared/LANGUAGE.md can be seen by looking at the source's words and at the compiled face. */
public final class Language {
    private static final String SOURCE = "src/main/java/WeekBoats.java";
    private static final List<String> FACE = Arrays.asList(
        "boolean stretch 4", "boolean water 1", "int stoppage 3", "int boat 4", "int feed 5", "boolean end 1", "int rules 0",
        "int fault 1", "int open 2", "int comes 4", "int maybe 4", "int harm 4", "int back 2", "int rung 0",
        "boolean pump 2", "int pumped 5", "int enough 5", "int trip 5", "int late 1", "int log 3", "int could 4",
        "int whose 4", "int tonight 2", "int queue 2", "int lock 1", "int booking 4", "int given 2", "int more 3",
        "boolean gas 3", "int dock 1", "int job 1", "int turned 2", "boolean weight 2", "int van 1", "int vans 1",
        "int call 3", "int taken 3", "int left 5", "int shuts 4", "int price 3", "int held 4", "int look 1");
    private static int wrong = 0;

    private static void must(boolean is, String what) {
        if (!is) {
            wrong++;
            System.out.println("not kept: " + what);
        }
    }

    public static void main(String[] args) throws Exception {
        byte[] bytes = Files.readAllBytes(Paths.get(SOURCE));
        for (byte b : bytes) {
            must(b == 10 || b >= 32 && b < 127, "only plain signs in the source");
        }
        String text = withoutComments(new String(bytes, StandardCharsets.ISO_8859_1));
        words(text);
        face();
        Class<?>[] inside = WeekBoats.class.getDeclaredClasses();
        must(inside.length < 12, "at most twelve classes");
        shape(WeekBoats.class);
        for (Class<?> c : inside) {
            must(Modifier.isStatic(c.getModifiers()) && !Modifier.isPublic(c.getModifiers()), c + " is static and not public");
            shape(c);
        }
        lengths(text);
        System.out.println(wrong == 0 ? "the language is kept" : wrong + " rules are not kept");
        if (wrong != 0) {
            System.exit(1);
        }
    }

    private static String withoutComments(String s) {
        return s.replaceAll("(?s)/\\*.*?\\*/", "").replaceAll("//[^\n]*", "");
    }

    private static void words(String text) {
        String[] forbidden = {"throw", "throws", "try", "catch", "finally", "synchronized", "assert", "volatile", "native",
            "transient", "package", "record", "interface", "Exception", "Error", "Object", "System\\.out", "Thread",
            "Random", "currentTimeMillis", "nanoTime", "getClass", "hashCode", "toString", "\\w+Exact", "double", "float",
            "protected", "->", "::", "@\\w+"};
        for (String word : forbidden) {
            boolean letter = Character.isLetter(word.charAt(0));
            String pattern = letter ? "(?s).*\\b" + word + "\\b.*" : "(?s).*" + word + ".*";
            must(!text.matches(pattern), "no " + word);
        }
        must(!text.matches("(?s).*\"\\s*\\+.*") && !text.matches("(?s).*\\+\\s*\".*"), "texts are not joined by +");
        for (String line : text.split("\n")) {
            must(!line.startsWith("import") || line.equals("import java.util.Arrays;"), "only java.util.Arrays is imported");
            must(line.length() <= 120, "lines of at most 120 signs: " + line);
        }
        must(text.replaceAll("\\b(Arrays\\.fill|System\\.arraycopy)\\b", "").indexOf("System.") < 0
            && text.replaceAll("Arrays\\.fill", "").replace("java.util.Arrays;", "").indexOf("Arrays.") < 0,
            "of the library only what is listed");
        must(!text.matches("(?s).*\\bwhile\\b.*"), "loops that count");
        must(!text.matches("(?s).*\\b(Integer|Long|Math)\\.[A-Z].*"), "of Integer, Long and Math only the functions");
        for (String line : text.split("\n")) {
            must(!line.matches(".*[&|^]=.*(==|!=| < | > |<=|>=|&&|\\|\\||true|false).*"), "&& and || of conditions: " + line);
        }
    }

    private static void face() {
        Set<String> seen = new TreeSet<>();
        for (Method m : WeekBoats.class.getDeclaredMethods()) {
            if (Modifier.isPublic(m.getModifiers())) {
                seen.add(m.getReturnType() + " " + m.getName() + " " + m.getParameterCount());
                must(!Modifier.isStatic(m.getModifiers()), m + " belongs to an object");
            } else {
                must(Modifier.isPrivate(m.getModifiers()), m + " is private");
            }
        }
        must(seen.equals(new TreeSet<>(FACE)), "the face: " + seen);
        must(WeekBoats.class.getDeclaredConstructors().length == 1, "one constructor");
        must(Modifier.isFinal(WeekBoats.class.getModifiers()), "the class is final");
        for (Field f : WeekBoats.class.getDeclaredFields()) {
            must(Modifier.isPrivate(f.getModifiers()) || f.getName().equals("NONE"), f + " is private");
        }
    }

    private static void shape(Class<?> c) {
        Set<String> names = new HashSet<>();
        for (String f : FACE) {
            names.add(f.split(" ")[1]);
        }
        int fields = 0;
        for (Field f : c.getDeclaredFields()) {
            if (Modifier.isStatic(f.getModifiers())) {
                must(Modifier.isFinal(f.getModifiers()), f + " is final");
                must(f.getType().isPrimitive() || f.getType() == String.class, f + " is a constant");
            } else {
                fields++;
            }
        }
        must(fields <= 20, c + " has at most twenty fields");
        for (Method m : c.getDeclaredMethods()) {
            must(m.getParameterCount() <= 7, m + " takes at most seven");
            must(Modifier.isPublic(m.getModifiers()) && c == WeekBoats.class || !names.contains(m.getName()),
                m + " has not the name of a public one");
        }
    }

    private static void lengths(String text) {
        String[] lines = text.split("\n");
        int begin = -1;
        for (int i = 0; i < lines.length; i++) {
            if (lines[i].matches("( {4}| {8})\\w.*\\) \\{")) {
                begin = i;
            }
            if (begin >= 0 && lines[i].matches("( {4}| {8})\\}")) {
                must(i - begin < 60, "a short method: " + lines[begin]);
                begin = -1;
            }
        }
    }
}
