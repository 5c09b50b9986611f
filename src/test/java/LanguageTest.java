import java.io.IOException;
import java.lang.reflect.Constructor;
import java.lang.reflect.Executable;
import java.lang.reflect.Field;
import java.lang.reflect.Method;
import java.lang.reflect.Modifier;
import java.nio.charset.StandardCharsets;
import java.nio.file.Files;
import java.nio.file.Path;
import java.util.ArrayList;
import java.util.Arrays;
import java.util.HashMap;
import java.util.List;
import java.util.Map;
import java.util.Set;
import java.util.TreeSet;
import java.util.regex.Matcher;
import java.util.regex.Pattern;
import java.util.stream.Collectors;

/** The document's face, and those of the language's rules that can be seen by looking at the class and its file. */
public final class LanguageTest {
    private static final Path FILE = Path.of("src/main/java/WrongClocks.java");
    private static final Set<String> FACE = Set.of(
            "int write(long,int)", "int erase()", "int fault()", "int house()", "int clock(int,int)",
            "int shows(int,int,int)", "int can(int,int,int)", "int fits(int)", "int times(int)", "int liars(int)",
            "int next(int)", "int note(int,int,int)", "int burn()", "int rates(int,int)", "int again(int,int)",
            "int stopped(int,int,int)", "int setBy(int,int,int,int)", "long egg(int,int,int,int,int)",
            "int order(int)", "int keep(int)", "int back(int)", "int count(int)");
    private static final String[] FORBIDDEN = {
        "throw", "throws", "try", "catch", "finally", "synchronized", "assert", "equals", "hashCode", "toString",
        "System", "Thread", "Object", "Exception", "Error", "var", "volatile", "transient", "protected", "native",
        "addExact", "subtractExact", "multiplyExact", "toIntExact", "random", "strictfp", "MAX_VALUE", "MIN_VALUE",
    };

    private LanguageTest() {
    }

    public static void main(String[] args) throws IOException {
        face();
        constants();
        for (Class<?> inner : WrongClocks.class.getDeclaredClasses()) {
            inner(inner);
        }
        sizes();
        String source = Files.readString(FILE, StandardCharsets.ISO_8859_1);
        words(source);
        methodsAreShort(source);
        rowsAreMadeByConstructors(source);
        callsGoEightDeep(source);
        Checks.end();
    }

    private static String told(Method method) {
        String given = Arrays.stream(method.getParameterTypes()).map(Class::getSimpleName).collect(Collectors.joining(","));
        return method.getReturnType().getSimpleName() + " " + method.getName() + "(" + given + ")";
    }

    private static void face() {
        int kind = WrongClocks.class.getModifiers();
        Checks.holds("the class is public and final", Modifier.isPublic(kind) && Modifier.isFinal(kind));
        Checks.holds("it has no class above it", WrongClocks.class.getSuperclass() == Object.class);
        Constructor<?>[] makers = WrongClocks.class.getDeclaredConstructors();
        Checks.holds("one constructor, public, of nothing",
                makers.length == 1 && Modifier.isPublic(makers[0].getModifiers()) && makers[0].getParameterCount() == 0);
        Set<String> open = new TreeSet<>();
        Set<String> names = new TreeSet<>();
        for (Method method : WrongClocks.class.getDeclaredMethods()) {
            if (Modifier.isPublic(method.getModifiers())) {
                open.add(told(method));
                names.add(method.getName());
                Checks.holds(method + " is not static", !Modifier.isStatic(method.getModifiers()));
            } else {
                Checks.holds(method + " is private", Modifier.isPrivate(method.getModifiers()) || method.isSynthetic());
            }
        }
        Checks.holds("the face is the document's: " + open, open.equals(FACE));
        for (Class<?> type : types()) {
            for (Method method : type.getDeclaredMethods()) {
                Checks.holds(method + " bears no public name",
                        Modifier.isPublic(method.getModifiers()) || !names.contains(method.getName()));
            }
        }
    }

    private static void constants() {
        List<String> open = List.of("NONE", "UNKNOWN", "OUTSIDE", "NOT", "FULL");
        int[] values = {WrongClocks.NONE, WrongClocks.UNKNOWN, WrongClocks.OUTSIDE, WrongClocks.NOT, WrongClocks.FULL};
        for (int i = 0; i < values.length; i++) {
            Checks.due(0, open.get(i), values[i], -1 - i);
        }
        for (Class<?> type : types()) {
            for (Field field : type.getDeclaredFields()) {
                int kind = field.getModifiers();
                Checks.holds(field + " is final, if it is static", !Modifier.isStatic(kind) || Modifier.isFinal(kind));
                if (type == WrongClocks.class) {
                    boolean isOpen = open.contains(field.getName()) && Modifier.isPublic(kind);
                    Checks.holds(field + " is private, or of the face", isOpen || Modifier.isPrivate(kind));
                }
            }
        }
    }

    private static List<Class<?>> types() {
        List<Class<?>> types = new ArrayList<>(List.of(WrongClocks.class.getDeclaredClasses()));
        types.add(WrongClocks.class);
        return types;
    }

    private static void inner(Class<?> inner) {
        int kind = inner.getModifiers();
        Checks.holds(inner + " is static", Modifier.isStatic(kind));
        Checks.holds(inner + " is not open", !Modifier.isPublic(kind) && !Modifier.isProtected(kind));
        Checks.holds(inner + " has none inside", inner.getDeclaredClasses().length == 0);
    }

    private static void sizes() {
        Checks.holds("some twelve classes", types().size() <= 12);
        for (Class<?> type : types()) {
            long fields = Arrays.stream(type.getDeclaredFields()).filter(f -> !Modifier.isStatic(f.getModifiers())).count();
            Checks.holds(type + " has some twenty fields", fields <= 20);
            for (Executable made : type.getDeclaredMethods()) {
                Checks.holds(made + " has seven parameters at most", made.getParameterCount() <= 7);
            }
        }
    }

    private static void words(String source) {
        Checks.holds("signs from 1 to 127", source.chars().allMatch(c -> c >= 1 && c <= 127));
        String code = source.replaceAll("//.*|(?s)/\\*.*?\\*/", "").replaceAll("\"[^\"\n]*\"", "\"\"");
        Matcher imports = Pattern.compile("import (.*);").matcher(code);
        while (imports.find()) {
            Checks.holds(imports.group() + " is listed",
                    Set.of("java.util.Arrays", "java.util.ArrayList", "java.util.List").contains(imports.group(1)));
        }
        for (String word : FORBIDDEN) {
            Checks.holds("no " + word, !Pattern.compile("\\b" + word + "\\b").matcher(code).find());
        }
        for (String sign : new String[] {"->", "::", "@", "package "}) {
            Checks.holds("no " + sign, !code.contains(sign));
        }
        Checks.holds("no text is joined by +", !code.contains("\"\" +") && !code.contains("+ \"\""));
        Checks.holds("one public class", code.split("public (final )?class").length == 2);
    }

    /** A method begins at a row that ends with ") {" within a class, and ends where its brackets close. */
    private static void methodsAreShort(String source) {
        String[] rows = source.split("\n");
        for (int i = 0; i < rows.length; i++) {
            if (!rows[i].matches(" {4}(?: {4})?[A-Za-z].*\\) \\{") || rows[i].matches(" *(if|for|while|switch|\\}).*")) {
                continue;
            }
            String end = rows[i].replaceAll("\\S.*", "") + "}";
            int last = i;
            while (!rows[last].equals(end)) {
                last++;
            }
            Checks.holds("sixty lines at most: " + rows[i].trim(), last - i < 60);
        }
    }

    /** Methods with their classes' names; a call of another object's method may be any of that name in another class. */
    private static void callsGoEightDeep(String source) {
        Map<String, List<String>> calls = new HashMap<>();
        String within = "";
        String method = "";
        for (String row : source.split("\n")) {
            Matcher inner = Pattern.compile(" {4}private static final class (\\w+) \\{").matcher(row);
            Matcher head = Pattern.compile("( {4}| {8})[A-Za-z][\\w\\[\\] ]* (\\w+)\\(.*\\) \\{").matcher(row);
            if (inner.matches()) {
                within = inner.group(1);
            } else if (head.matches() && !row.matches(" *(if|for|while|switch) .*")) {
                method = (head.group(1).length() == 4 ? "WrongClocks" : within) + "." + head.group(2);
                calls.put(method, new ArrayList<>());
            } else if (calls.containsKey(method)) {
                Matcher call = Pattern.compile("(\\.?)\\b(\\w+)\\(").matcher(row);
                while (call.find()) {
                    calls.get(method).add(call.group(1) + call.group(2));
                }
            }
        }
        Checks.holds("many methods were found", calls.size() > 60);
        for (String name : calls.keySet()) {
            int deep = depth(name, calls, new ArrayList<>());
            Checks.holds(name + " calls eight deep at most, and never itself: " + deep, deep <= 8);
        }
    }

    private static int depth(String method, Map<String, List<String>> calls, List<String> open) {
        if (open.contains(method)) {
            return 99;
        }
        open.add(method);
        String own = method.substring(0, method.indexOf('.'));
        int deepest = 0;
        for (String call : calls.get(method)) {
            boolean ofAnother = call.startsWith(".");
            for (String other : calls.keySet()) {
                boolean mine = other.startsWith(own + ".") || other.startsWith("WrongClocks.");
                if (other.endsWith("." + call.replace(".", "")) && ofAnother != mine) {
                    deepest = Math.max(deepest, depth(other, calls, open));
                }
            }
        }
        open.remove(method);
        return 1 + deepest;
    }

    /** All calls of a run live in one room: what is made is made with the object, none by a call. */
    private static void rowsAreMadeByConstructors(String source) {
        for (String row : source.split("\n")) {
            if (row.contains("new ") && !row.trim().startsWith("//") && !row.trim().startsWith("/**")) {
                boolean field = row.matches(" *(private )?final .* = new .*;");
                boolean part = row.matches(" *(kept|clocks)\\[\\w\\] = new (House|Clock)\\(\\);");
                Checks.holds("made with the object: " + row.trim(), field || part);
            }
        }
    }
}
