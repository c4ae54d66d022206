import java.io.IOException;
import java.lang.reflect.Array;
import java.lang.reflect.Field;
import java.lang.reflect.Method;
import java.lang.reflect.Modifier;
import java.nio.file.Files;
import java.nio.file.Path;
import java.util.ArrayList;
import java.util.IdentityHashMap;
import java.util.List;
import java.util.Map;
import java.util.Set;
import java.util.TreeSet;
import java.util.regex.Matcher;
import java.util.regex.Pattern;

/** The rules of LANGUAGE.md that can be seen from the classes and from the rows of the program's file. */
public final class LanguageTest {
    private static final Path PROGRAM = Path.of("src/main/java/GraphPages.java");
    private static final Set<Class<?>> CONSTANTS = Set.of(int.class, long.class, boolean.class, char.class,
        String.class, int[].class, long[].class, char[].class, byte[].class);
    private static final Pattern METHOD = Pattern.compile("( ++)(?!if|for|while|switch)\\w.*\\) \\{");
    private static final Pattern LIBRARY = Pattern.compile("\\b([A-Z][a-z]\\w*)\\.(\\w+)\\(");
    private static final Pattern MAKING = Pattern.compile("\\bnew (\\w+)");

    private final Checks checks = new Checks();
    private final List<Class<?>> classes = new ArrayList<>();
    private final List<String> rows = new ArrayList<>();

    public static void main(String[] args) throws IOException, IllegalAccessException {
        LanguageTest test = new LanguageTest();
        test.classes.add(GraphPages.class);
        test.classes.addAll(List.of(GraphPages.class.getDeclaredClasses()));
        for (String row : Files.readAllLines(PROGRAM)) {
            test.rows.add(withoutCommentsAndTexts(row));
        }
        test.classesInside();
        test.namesOfMethods();
        test.staticFields();
        test.library();
        test.wordsThatStandNowhere();
        test.sizes();
        test.lengthsOfMethods();
        test.makingOfObjects();
        test.roomOfOneObject();
        test.checks.end();
    }

    private static String withoutCommentsAndTexts(String row) {
        String code = row.replaceAll("\"(\\\\.|[^\"\\\\])*\"", "\"\"").replaceAll("'(\\\\.|[^'\\\\])'", "' '");
        return code.strip().matches("(/\\*|\\*).*") ? "" : code.replaceAll("//.*", "");
    }

    private void classesInside() {
        checks.sentence("rules 1 and 2: the classes inside it, which are private or package-visible and static");
        for (Class<?> inside : GraphPages.class.getDeclaredClasses()) {
            int modifiers = inside.getModifiers();
            checks.due(inside.getName() + " is static", Modifier.isStatic(modifiers), true);
            checks.due(inside.getName() + " is seen from outside",
                Modifier.isPublic(modifiers) || Modifier.isProtected(modifiers), false);
            checks.due("classes inside " + inside.getName(), inside.getDeclaredClasses().length, 0);
        }
    }

    private void namesOfMethods() {
        checks.sentence("rule 1: No private method bears the name of a public one.");
        Set<String> face = new TreeSet<>();
        for (Method method : GraphPages.class.getMethods()) {
            face.add(method.getName());
        }
        for (Class<?> each : classes) {
            for (Method method : each.getDeclaredMethods()) {
                boolean ofTheFace = each == GraphPages.class && Modifier.isPublic(method.getModifiers());
                checks.due(each.getName() + "." + method.getName() + " bears a public name",
                    face.contains(method.getName()), ofTheFace);
            }
        }
    }

    private void staticFields() {
        checks.sentence("rule 5: Static fields are final: constants");
        for (Class<?> each : classes) {
            for (Field field : each.getDeclaredFields()) {
                if (Modifier.isStatic(field.getModifiers())) {
                    checks.due(field + " is a constant",
                        Modifier.isFinal(field.getModifiers()) && CONSTANTS.contains(field.getType()), true);
                }
            }
        }
    }

    private void library() {
        checks.sentence("rule 4: The library: only what stands here.");
        Set<String> used = new TreeSet<>();
        for (String row : rows) {
            if (row.startsWith("import") || row.startsWith("package")) {
                used.add(row);
            }
            Matcher calls = LIBRARY.matcher(row);
            while (calls.find()) {
                used.add(calls.group(1) + "." + calls.group(2));
            }
        }
        checks.due("imports and static calls", used.toString(), "[Arrays.fill, Math.max, import java.util.Arrays;]");
    }

    private void wordsThatStandNowhere() {
        checks.sentence("rules 2, 6 and 13: no lambda, no method reference, no throw, try, catch, synchronized, assert, .. thread");
        Pattern words = Pattern.compile("->|::|\\b(throws?|try|catch|finally|synchronized|assert|volatile|native"
            + "|System|Thread|Object|equals|hashCode|toString|double|float)\\b");
        for (int i = 0; i < rows.size(); i++) {
            checks.due("row " + (i + 1) + " has such a word: " + rows.get(i), words.matcher(rows.get(i)).find(), false);
        }
    }

    private void sizes() {
        checks.sentence("rule 11: at most seven parameters, .. some twelve classes, .. some twenty fields");
        checks.due("twelve classes", classes.size() <= 12, true);
        for (Class<?> each : classes) {
            int fields = 0;
            for (Field field : each.getDeclaredFields()) {
                fields += Modifier.isStatic(field.getModifiers()) ? 0 : 1;
            }
            checks.due("twenty fields in " + each.getName(), fields <= 20, true);
            for (Method method : each.getDeclaredMethods()) {
                checks.due("seven parameters of " + method, method.getParameterCount() <= 7, true);
            }
        }
    }

    private void lengthsOfMethods() {
        checks.sentence("rule 11: Methods stay short (some sixty lines)");
        int methods = 0;
        for (int first = 0; first < rows.size(); first++) {
            Matcher start = METHOD.matcher(rows.get(first));
            if (start.matches()) {
                int last = rows.subList(first, rows.size()).indexOf(start.group(1) + "}");
                checks.due(rows.get(first) + " ends after " + last + " rows", last > 0 && last <= 60, true);
                methods++;
            }
        }
        int declared = 0;
        for (Class<?> each : classes) {
            declared += each.getDeclaredMethods().length;
        }
        checks.due("methods that were looked at", methods >= declared, true);
    }

    /** Objects are made where an object is made, and so a call makes none, however often it is made. */
    private void makingOfObjects() {
        checks.sentence("rule 12: What a run makes is counted .. keep it small");
        Set<String> names = new TreeSet<>(Set.of("int", "char", "boolean"));
        for (Class<?> inside : GraphPages.class.getDeclaredClasses()) {
            names.add(inside.getSimpleName());
        }
        int constructor = rows.indexOf("    public GraphPages() {");
        int behind = constructor + rows.subList(constructor, rows.size()).indexOf("    }");
        for (int i = 0; i < rows.size(); i++) {
            Matcher making = MAKING.matcher(rows.get(i));
            if (making.find()) {
                boolean field = rows.get(i).matches("        final \\w+\\[\\] \\w+ = new \\w+\\[.*\\];|        private final \\w+\\[\\] .*");
                checks.due("row " + (i + 1) + " makes a field, or stands in the constructor",
                    field || i > constructor && i < behind, true);
                checks.due("known is " + making.group(1), names.contains(making.group(1)), true);
            }
        }
    }

    private void roomOfOneObject() throws IllegalAccessException {
        checks.sentence("rule 12: What a run makes is counted .. keep it small");
        Map<Object, Integer> sizes = new IdentityHashMap<>();
        measure(new GraphPages(), sizes);
        int all = sizes.values().stream().mapToInt(Integer::intValue).sum();
        checks.due("at most 50 objects and arrays, there are " + sizes.size(), sizes.size() <= 50, true);
        checks.due("at most 10000 fields and elements, there are " + all, all <= 10000, true);
    }

    private static void measure(Object part, Map<Object, Integer> sizes) throws IllegalAccessException {
        if (part == null || sizes.containsKey(part)) {
            return;
        }
        if (part.getClass().isArray()) {
            sizes.put(part, Array.getLength(part));
            return;
        }
        int fields = 0;
        sizes.put(part, fields);
        for (Field field : part.getClass().getDeclaredFields()) {
            if (!Modifier.isStatic(field.getModifiers())) {
                fields++;
                if (!field.getType().isPrimitive()) {
                    field.setAccessible(true);
                    measure(field.get(part), sizes);
                }
            }
        }
        sizes.put(part, fields);
    }
}
