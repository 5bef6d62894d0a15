import java.lang.reflect.Constructor;
import java.lang.reflect.Field;
import java.lang.reflect.Method;
import java.lang.reflect.Modifier;
import java.util.Set;
import java.util.TreeSet;

/** The class shows the document's face and nothing besides; what is inside keeps to the rules on it. */
public final class FaceTest {

    public static void main(String[] args) {
        Set<String> due = new TreeSet<>(Set.of(
                "int NONE", "int BAD", "int FULL", "ForestPacker()", "begin(int)", "join(int, int)",
                "cut(int)", "most(int)", "held(int, int)", "forest(int, int)", "why(int, int, int)",
                "tight(int, int, int)", "classes(int)", "crossing(int)", "arboricity()", "dense()",
                "spanning()", "told(int, int)"));
        Set<String> shown = new TreeSet<>();
        boolean right = Modifier.isFinal(ForestPacker.class.getModifiers());
        for (Field field : ForestPacker.class.getDeclaredFields()) {
            if (!Modifier.isPrivate(field.getModifiers())) {
                shown.add(field.getType() + " " + field.getName());
                right &= Modifier.isPublic(field.getModifiers());
                right &= Modifier.isStatic(field.getModifiers());
                right &= Modifier.isFinal(field.getModifiers());
            }
        }
        for (Constructor<?> constructor : ForestPacker.class.getDeclaredConstructors()) {
            shown.add("ForestPacker(" + types(constructor.getParameterTypes()) + ")");
            right &= Modifier.isPublic(constructor.getModifiers());
        }
        for (Method method : ForestPacker.class.getDeclaredMethods()) {
            if (!Modifier.isPrivate(method.getModifiers())) {
                shown.add(method.getName() + "(" + types(method.getParameterTypes()) + ")");
                right &= Modifier.isPublic(method.getModifiers());
                right &= !Modifier.isStatic(method.getModifiers());
                right &= method.getReturnType() == int.class;
            }
        }
        if (!right || !shown.equals(due)) {
            System.out.println("the face is " + shown + ", due is " + due);
            System.exit(1);
        }
        if (!insideIsRight(ForestPacker.class, shown)) {
            System.exit(1);
        }
        System.out.println("the face is as due");
    }

    /** What LANGUAGE.md's rules 1 and 5 ask of the members that the face does not show. */
    private static boolean insideIsRight(Class<?> type, Set<String> face) {
        boolean right = true;
        for (Method method : type.getDeclaredMethods()) {
            boolean isFace = type == ForestPacker.class && Modifier.isPublic(method.getModifiers());
            for (String shown : face) {
                if (!isFace && shown.startsWith(method.getName() + "(")) {
                    System.out.println(type.getName() + "." + method.getName() + " bears the name of a public method");
                    right = false;
                }
            }
        }
        for (Field field : type.getDeclaredFields()) {
            if (Modifier.isStatic(field.getModifiers()) && !Modifier.isFinal(field.getModifiers())) {
                System.out.println(type.getName() + "." + field.getName() + " is static and not final");
                right = false;
            }
        }
        for (Class<?> inside : type.getDeclaredClasses()) {
            int modifiers = inside.getModifiers();
            if (Modifier.isPublic(modifiers) || Modifier.isProtected(modifiers) || !Modifier.isStatic(modifiers)) {
                System.out.println(inside.getName() + " is shown or not static");
                right = false;
            }
            right &= insideIsRight(inside, face);
        }
        return right;
    }

    private static String types(Class<?>[] parameters) {
        StringBuilder text = new StringBuilder();
        for (Class<?> parameter : parameters) {
            text.append(text.length() == 0 ? "" : ", ").append(parameter.getName());
        }
        return text.toString();
    }
}
