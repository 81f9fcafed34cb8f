import java.io.IOException;
import java.lang.reflect.Field;
import java.lang.reflect.Method;
import java.lang.reflect.Modifier;
import java.nio.file.Files;
import java.nio.file.Path;
import java.util.LinkedHashMap;
import java.util.Map;
import java.util.Set;
import java.util.TreeSet;
import java.util.regex.Matcher;
import java.util.regex.Pattern;

/** What of LANGUAGE.md's rules can be seen from the class and from its text. */
public final class LanguageTest {
    private static final Path SOURCE = Path.of("src/main/java/RowQueries.java");
    private static final Set<String> FACE = Set.of(
            "add(int,int,int,int)", "remove(int,int)", "store(int,int,int)", "token(int,int)", "drop()", "clear()",
            "rows(int)", "cell(int,int,int)", "whole()", "result()", "reached(int)", "without(int,int)");
    private static final int MOST_LINES = 60;
    private static final int MOST_PARAMETERS = 7;
    private static final int DEEPEST_CALLS = 6;
    private static final int MOST_FIELDS = 40;

    private static int wrong = 0;

    private static void hold(int rule, String what, boolean holds) {
        if (!holds) {
            wrong++;
            System.out.println("rule " + rule + ": " + what);
        }
    }

    private static String signature(Method method) {
        StringBuilder types = new StringBuilder();
        for (Class<?> type : method.getParameterTypes()) {
            types.append(types.length() == 0 ? "" : ",").append(type.getName());
        }
        return method.getName() + "(" + types + ")";
    }

    private static void face() {
        Class<?> c = RowQueries.class;
        hold(1, "the class is public and final", Modifier.isPublic(c.getModifiers()) && Modifier.isFinal(c.getModifiers()));
        hold(1, "no class within it", c.getDeclaredClasses().length == 0 && c.getSuperclass() == Object.class);
        hold(1, "one constructor, public", c.getDeclaredConstructors().length == 1 && c.getConstructors().length == 1);
        Set<String> publicOnes = new TreeSet<>();
        Set<String> publicNames = new TreeSet<>();
        for (Method method : c.getDeclaredMethods()) {
            if (Modifier.isPublic(method.getModifiers())) {
                publicOnes.add(signature(method));
                publicNames.add(method.getName());
                hold(1, signature(method) + " answers an int", method.getReturnType() == int.class);
                hold(1, signature(method) + " belongs to the object", !Modifier.isStatic(method.getModifiers()));
            }
        }
        hold(1, "the public methods are " + publicOnes, publicOnes.equals(FACE));
        for (Method method : c.getDeclaredMethods()) {
            boolean isPrivate = Modifier.isPrivate(method.getModifiers());
            hold(1, signature(method) + " is public or private", isPrivate || FACE.contains(signature(method)));
            hold(1, signature(method) + " bears a public one's name", !isPrivate || !publicNames.contains(method.getName()));
            hold(10, signature(method) + " has too many parameters", method.getParameterCount() <= MOST_PARAMETERS);
            hold(4, signature(method) + " answers an array", !method.getReturnType().isArray());
        }
    }

    private static void fields() {
        int fields = 0;
        for (Field field : RowQueries.class.getDeclaredFields()) {
            Class<?> type = field.getType();
            boolean isStatic = Modifier.isStatic(field.getModifiers());
            hold(1, field.getName() + " is private", Modifier.isPrivate(field.getModifiers()));
            hold(5, field.getName() + " is a constant", !isStatic || type.isPrimitive() && Modifier.isFinal(field.getModifiers()));
            hold(2, field.getName() + " is of a number type", type.isPrimitive() || type.getComponentType().isPrimitive());
            fields += isStatic ? 0 : 1;
        }
        hold(10, fields + " fields", fields <= MOST_FIELDS);
    }

    private static void words(String text) {
        String[] forbidden = {"import", "package", "throw", "throws", "try", "catch", "synchronized", "assert",
            "instanceof", "null", "float", "double", "String", "Math", "Integer", "System", "Arrays", "Object", "var",
            "enum", "interface", "record", "this", "->", "::", "\"", "\\[\\s*\\]\\s*\\["};
        for (String word : forbidden) {
            String pattern = Character.isLetter(word.charAt(0)) ? "\\b" + word + "\\b" : word;
            hold(6, "the text has " + word, !Pattern.compile(pattern).matcher(text).find());
        }
        for (String line : text.split("\n")) {
            boolean isField = line.matches(" {4}private final int\\[\\] \\w+ = new int\\[[A-Z_ *+0-9]+\\];");
            hold(4, "an array made outside a field's initialiser: " + line.trim(), isField || !line.matches(".*\\bnew\\b.*"));
        }
    }

    private static Map<String, String> bodies(String text) {
        Map<String, String> bodies = new LinkedHashMap<>();
        Matcher method = Pattern.compile("(?ms)^    (?:public|private)[\\w ]* (\\w+)\\([^)]*\\) \\{\n(.*?)^    \\}\n").matcher(text);
        while (method.find()) {
            bodies.put(method.group(1), method.group(2));
        }
        return bodies;
    }

    private static int depth(String name, Map<String, String> bodies, Set<String> around) {
        if (around.contains(name)) {
            hold(8, name + " calls itself", false);
            return 0;
        }
        Set<String> inner = new TreeSet<>(around);
        inner.add(name);
        int deepest = 0;
        for (String other : bodies.keySet()) {
            if (Pattern.compile("\\b" + other + "\\(").matcher(bodies.get(name)).find()) {
                deepest = Math.max(deepest, depth(other, bodies, inner));
            }
        }
        return deepest + 1;
    }

    private static void calls(String text) {
        Map<String, String> bodies = bodies(text);
        hold(1, "every method is found in the text", bodies.size() == RowQueries.class.getDeclaredMethods().length + 1);
        for (String name : bodies.keySet()) {
            hold(10, name + " is too long", bodies.get(name).split("\n").length <= MOST_LINES);
            hold(10, name + " calls too deep", depth(name, bodies, Set.of()) <= DEEPEST_CALLS);
            String anyName = "(?:" + String.join("|", bodies.keySet()) + ")";
            Pattern nested = Pattern.compile("\\b" + anyName + "\\((?:[^()]|\\([^()]*\\))*\\b" + anyName + "\\(");
            hold(10, name + " has a call within a call's arguments", !nested.matcher(bodies.get(name)).find());
        }
    }

    public static void main(String[] args) throws IOException {
        String text = Files.readString(SOURCE).replaceAll("(?s)/\\*.*?\\*/", "").replaceAll("//[^\n]*", "");
        face();
        fields();
        words(text);
        calls(text);
        System.out.println(wrong == 0 ? "the rules hold" : wrong + " rules do not hold");
        if (wrong != 0) {
            System.exit(1);
        }
    }
}
