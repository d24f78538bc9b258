import java.lang.reflect.Constructor;
import java.lang.reflect.Field;
import java.lang.reflect.Method;
import java.lang.reflect.Modifier;
import java.util.Set;
import java.util.TreeSet;

/** The public face of the document, and rule 1 of LANGUAGE.md: nothing else can be seen. */
public final class FaceTest {
    private static final Checks checks = new Checks();
    private static final Set<String> FACE = Set.of(
        "int NONE", "NewsFlood(int, int)",
        "int carry(int, long, int)", "boolean peer(int, int, long)", "boolean matches(long, long)",
        "boolean write(int, int, int, int, int)", "int post(int, int, int)", "int offer(int, int)",
        "int receive(int, int)", "int crash(int)", "int tick(int)", "int expire(int)",
        "int select(int, int)", "int step(int, boolean)", "int stat(int, int)", "int over(int, int, int)",
        "int group(int, int, int)", "int history(int, int, int)", "int article(int, int, int)",
        "int backlog(int, int, int)", "int about(int, int)");

    public static void main(String[] args) {
        Set<String> found = new TreeSet<>();
        Set<String> publicNames = new TreeSet<>();
        for (Method method : NewsFlood.class.getDeclaredMethods()) {
            if (!Modifier.isPrivate(method.getModifiers())) {
                found.add(method.getReturnType() + " " + method.getName() + types(method.getParameterTypes()));
                publicNames.add(method.getName());
                checks.due(method + " is public", Modifier.isPublic(method.getModifiers()), true);
                checks.due(method + " is static", Modifier.isStatic(method.getModifiers()), false);
            }
        }
        for (Constructor<?> constructor : NewsFlood.class.getDeclaredConstructors()) {
            found.add("NewsFlood" + types(constructor.getParameterTypes()));
            checks.due(constructor + " is public", Modifier.isPublic(constructor.getModifiers()), true);
        }
        for (Field field : NewsFlood.class.getDeclaredFields()) {
            if (!Modifier.isPrivate(field.getModifiers())) {
                found.add(field.getType() + " " + field.getName());
            }
            if (Modifier.isStatic(field.getModifiers())) {
                checks.due(field + " is final", Modifier.isFinal(field.getModifiers()), true);
            }
        }
        checks.due("the class is public and final", NewsFlood.class.getModifiers(), Modifier.PUBLIC | Modifier.FINAL);
        checks.due("the face is the document's: " + found, found.equals(FACE), true);
        privateNames(publicNames);
        checks.end();
    }

    private static void privateNames(Set<String> publicNames) {
        for (Method method : NewsFlood.class.getDeclaredMethods()) {
            if (Modifier.isPrivate(method.getModifiers())) {
                checks.due(method + " has a public one's name", publicNames.contains(method.getName()), false);
            }
        }
        for (Class<?> inside : NewsFlood.class.getDeclaredClasses()) {
            checks.due(inside + " is static", Modifier.isStatic(inside.getModifiers()), true);
            checks.due(inside + " is public", Modifier.isPublic(inside.getModifiers()), false);
            for (Method method : inside.getDeclaredMethods()) {
                checks.due(method + " has a public one's name", publicNames.contains(method.getName()), false);
            }
        }
    }

    private static String types(Class<?>[] parameters) {
        StringBuilder text = new StringBuilder("(");
        for (Class<?> parameter : parameters) {
            text.append(text.length() > 1 ? ", " : "").append(parameter.getName());
        }
        return text.append(")").toString();
    }
}
