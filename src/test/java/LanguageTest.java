import java.lang.reflect.Constructor;
import java.lang.reflect.Field;
import java.lang.reflect.Method;
import java.lang.reflect.Modifier;
import java.nio.charset.StandardCharsets;
import java.nio.file.Files;
import java.nio.file.Path;
import java.util.Arrays;
import java.util.List;
import java.util.Map;
import java.util.Set;
import java.util.TreeMap;
import java.util.TreeSet;
import java.util.regex.Matcher;
import java.util.regex.Pattern;

/** The rules of LANGUAGE.md that can be seen by looking at the file and at the class. */
public final class LanguageTest {
    private static final Checks C = new Checks("LanguageTest");
    private static final String FACE =
        "int process(int, int); int move(int, int, int, int); int unmove(int, int, int, int); int hides(int, int); "
        + "int renames(int, int, int); int together(int, int, int, int); int presses(int); int of(int, int); "
        + "int leads(int, int, int); int alike(int, int, int, int); int type(int); int clear(); int moves(int); "
        + "int behind(int, int); int holds(int, int, int); int fault(int, int, int, int); int reason(int, int, int); "
        + "int back(); int told(int); long digest()";

    public static void main(String[] args) throws Exception {
        face();
        nested();
        source();
        C.end();
    }

    private static void face() {
        Class<?> c = BesideWalk.class;
        C.holds("1: the class is public and final", c.getModifiers() == (Modifier.PUBLIC | Modifier.FINAL));
        Set<String> due = new TreeSet<>(Arrays.asList(FACE.split("; ")));
        Set<String> names = new TreeSet<>();
        Set<String> seen = new TreeSet<>();
        for (Method m : c.getDeclaredMethods()) {
            if (!Modifier.isPrivate(m.getModifiers())) {
                C.due("1: public alone: " + m, m.getModifiers(), Modifier.PUBLIC);
                seen.add(told(m));
                names.add(m.getName());
            }
        }
        C.holds("1: the methods are those of the document: " + seen, seen.equals(due));
        for (Class<?> part : all()) {
            for (Method m : part.getDeclaredMethods()) {
                C.holds("1: a name of the face is used again: " + m, part == c && !Modifier.isPrivate(m.getModifiers())
                    || !names.contains(m.getName()));
            }
        }
        Constructor<?>[] makers = c.getDeclaredConstructors();
        C.due("1: one constructor", makers.length, 1);
        C.holds("1: it is public and takes nothing",
            makers[0].getModifiers() == Modifier.PUBLIC && makers[0].getParameterCount() == 0);
        Set<String> open = new TreeSet<>();
        for (Field f : c.getDeclaredFields()) {
            if (!Modifier.isPrivate(f.getModifiers())) {
                open.add(f.getName());
            }
        }
        C.holds("1: constants: " + open, open.equals(Set.of("NONE", "BAD", "NO", "FULL")));
    }

    private static String told(Method m) {
        StringBuilder told = new StringBuilder(m.getReturnType() + " " + m.getName() + "(");
        for (Class<?> type : m.getParameterTypes()) {
            told.append(told.charAt(told.length() - 1) == '(' ? "" : ", ").append(type);
        }
        return told.append(")").toString();
    }

    private static List<Class<?>> all() {
        List<Class<?>> all = new java.util.ArrayList<>(Arrays.asList(BesideWalk.class.getDeclaredClasses()));
        all.add(BesideWalk.class);
        return all;
    }

    private static void nested() {
        C.holds("11: classes", all().size() <= 12);
        for (Class<?> c : all()) {
            C.holds("2: static: " + c, c == BesideWalk.class || Modifier.isStatic(c.getModifiers()));
            C.holds("1: not public: " + c,
                c == BesideWalk.class || (c.getModifiers() & (Modifier.PUBLIC | Modifier.PROTECTED)) == 0);
            int fields = 0;
            for (Field f : c.getDeclaredFields()) {
                boolean isStatic = Modifier.isStatic(f.getModifiers());
                fields += isStatic ? 0 : 1;
                C.holds("5: a static field is a final number: " + f,
                    !isStatic || Modifier.isFinal(f.getModifiers()) && f.getType().isPrimitive());
            }
            C.holds("11: fields of " + c, fields <= 20);
            for (Method m : c.getDeclaredMethods()) {
                C.holds("11: parameters of " + m, m.getParameterCount() <= 7);
            }
        }
    }

    private static void source() throws Exception {
        String text = Files.readString(Path.of("src/main/java/BesideWalk.java"), StandardCharsets.ISO_8859_1);
        C.holds("4: signs 1 to 127", text.chars().allMatch(c -> c >= 1 && c <= 127));
        String code = text.replaceAll("(?s)/\\*.*?\\*/", "").replaceAll("//[^\n]*", "");
        String[] banned = {
            "throw", "throws", "try", "catch", "synchronized", "assert", "instanceof", "lambda", "var", "package",
            "double", "float", "hashCode", "toString", "equals", "Object", "System\\.(?!arraycopy)", "Thread", "Random",
            "\\w+Exact", "volatile", "transient", "native", "goto", "yield", "while\\s*\\(\\s*true", "for\\s*\\(\\s*;"};
        for (String word : banned) {
            C.holds("6, 7, 9, 13: '" + word + "' stands in the code", !Pattern.compile("\\b" + word + "\\b").matcher(code).find());
        }
        C.holds("2: no lambda, no method reference", !code.contains("->") && !code.contains("::"));
        Matcher imports = Pattern.compile("import ([^;]+);").matcher(code);
        while (imports.find()) {
            C.holds("4: import of " + imports.group(1), imports.group(1).equals("java.util.Arrays"));
        }
        Matcher library = Pattern.compile("\\b(Arrays|Math|Integer|System)\\.(\\w+)").matcher(code);
        Set<String> may = Set.of("Arrays.fill", "Arrays.copyOf", "Math.min", "Integer.bitCount", "System.arraycopy");
        while (library.find()) {
            C.holds("4: library: " + library.group(), may.contains(library.group()));
        }
        methods(code);
    }

    /** A method begins at an indented line that ends with ") {" and is no statement; its brace closes it. */
    private static void methods(String code) {
        Map<String, Set<String>> calls = new TreeMap<>();
        String[] lines = code.split("\n");
        for (int i = 0; i < lines.length; i++) {
            Matcher head = Pattern.compile(" {4,8}[\\w\\[\\] ]*?(\\w+)\\([^()]*\\) \\{").matcher(lines[i]);
            if (head.matches() && !lines[i].matches("\\s*(if|for|while|switch) .*")) {
                String end = lines[i].replaceAll("\\S.*", "") + "}";
                Set<String> called = calls.computeIfAbsent(head.group(1), name -> new TreeSet<>());
                int last = i;
                while (last < lines.length - 1 && !lines[last].equals(end)) {
                    last++;
                    Matcher call = Pattern.compile("\\b(\\w+)\\(").matcher(lines[last]);
                    while (call.find()) {
                        called.add(call.group(1));
                    }
                }
                C.holds("11: length of " + lines[i].trim(), last - i < 60);
            }
        }
        C.holds("methods are seen", calls.size() > 80);
        for (String name : calls.keySet()) {
            C.holds("8, 11: calls from " + name + " go at most eight deep", depth(calls, name, 0) <= 8);
        }
    }

    /** Methods of one name count as one, so this is never less than what is so. */
    private static int depth(Map<String, Set<String>> calls, String name, int above) {
        int deepest = 0;
        if (above < 20 && calls.containsKey(name)) {
            for (String called : calls.get(name)) {
                if (calls.containsKey(called)) {
                    deepest = Math.max(deepest, depth(calls, called, above + 1));
                }
            }
        }
        return deepest + 1;
    }
}
