import java.lang.reflect.Constructor;
import java.lang.reflect.Field;
import java.lang.reflect.Member;
import java.lang.reflect.Method;
import java.lang.reflect.Modifier;
import java.util.Set;
import java.util.TreeSet;

/** The public face is the document's, with nothing beside it that other classes could see. */
public final class FaceTest {
    private static final String[] FACE = {
        "GraphPages()", "FORM = -1", "VERSION = -2", "MUST = -3", "CONTENT = -4",
        "int make(int, int)", "boolean type(int, char)", "boolean put(int, int, int)",
        "boolean link(int, int, int)", "int objects()", "int kind(int)", "int size(int)",
        "int holds(int, int)", "int value(int, int)", "boolean alike(int, int)", "int shared(int)",
        "int encode(int)", "int decode()", "void clear()", "boolean understand(int, boolean)",
        "int length()", "int charAt(int)", "boolean feed(char)", "boolean alter(int, char)", "boolean cut(int)"};

    public static void main(String[] args) throws IllegalAccessException {
        Checks checks = new Checks();
        Set<String> want = new TreeSet<>(Set.of(FACE));
        checks.due("the face", face().toString(), want.toString());
        checks.due("the class is public and final",
            Modifier.isPublic(GraphPages.class.getModifiers()) && Modifier.isFinal(GraphPages.class.getModifiers()), true);
        checks.end();
    }

    private static Set<String> face() throws IllegalAccessException {
        Set<String> found = new TreeSet<>();
        for (Constructor<?> constructor : GraphPages.class.getDeclaredConstructors()) {
            addVisible(found, constructor, "GraphPages" + parameters(constructor.getParameterTypes()));
        }
        for (Method method : GraphPages.class.getDeclaredMethods()) {
            addVisible(found, method,
                method.getReturnType() + " " + method.getName() + parameters(method.getParameterTypes()));
        }
        for (Field field : GraphPages.class.getDeclaredFields()) {
            if (!Modifier.isPrivate(field.getModifiers())) {
                addVisible(found, field, field.getName() + " = " + field.get(null));
            }
        }
        return found;
    }

    private static void addVisible(Set<String> found, Member member, String text) {
        if (!Modifier.isPrivate(member.getModifiers())) {
            found.add(Modifier.isPublic(member.getModifiers()) ? text : "not public: " + text);
        }
    }

    private static String parameters(Class<?>[] types) {
        StringBuilder row = new StringBuilder("(");
        for (Class<?> type : types) {
            row.append(row.length() > 1 ? ", " : "").append(type.getName());
        }
        return row.append(')').toString();
    }
}
