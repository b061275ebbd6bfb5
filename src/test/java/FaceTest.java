import java.lang.reflect.Constructor;
import java.lang.reflect.Field;
import java.lang.reflect.Method;
import java.lang.reflect.Modifier;
import java.util.Arrays;
import java.util.Set;
import java.util.TreeSet;

/** The class shows the document's face and no more (LANGUAGE.md, rule 1). */
public final class FaceTest {
    private static final String[] METHODS = {
        "alone(int,int)", "bending(int,int)", "best(int,int)", "bright(int,int)", "clearText()", "count(int)",
        "dim(int,int)", "fault(int)", "height(int,int)", "light(int)", "line(int,int)", "lineOf(int,int)",
        "move(int,int)", "play()", "prism(int,int,int,int)", "set(int,int)", "share()", "slit(int,int,int)",
        "take(int)", "thing(int,int)", "tuned(int)", "type(int)", "undo()",
    };

    public static void main(String[] args) {
        Due.part("face");
        Class<JoinedLight> face = JoinedLight.class;
        Due.holds("the class is not public and final",
            Modifier.isPublic(face.getModifiers()) && Modifier.isFinal(face.getModifiers()));
        methods(face);
        Constructor<?>[] makers = face.getDeclaredConstructors();
        Due.holds("there is another constructor than JoinedLight()",
            makers.length == 1 && makers[0].getParameterCount() == 0 && Modifier.isPublic(makers[0].getModifiers()));
        constants(face);
        classesInside(face);
        Due.end();
    }

    private static void methods(Class<?> face) {
        Set<String> found = new TreeSet<>();
        Set<String> names = new TreeSet<>();
        for (String method : METHODS) {
            names.add(method.substring(0, method.indexOf('(')));
        }
        for (Method method : face.getDeclaredMethods()) {
            if (Modifier.isPrivate(method.getModifiers())) {
                Due.holds("a private method is named " + method.getName(), !names.contains(method.getName()));
                continue;
            }
            StringBuilder text = new StringBuilder(method.getName()).append('(');
            for (Class<?> type : method.getParameterTypes()) {
                text.append(text.charAt(text.length() - 1) == '(' ? "" : ",").append(type.getName());
            }
            found.add(text.append(')').toString());
            Due.holds(method + " is not public, or static, or answers no int",
                Modifier.isPublic(method.getModifiers()) && !Modifier.isStatic(method.getModifiers())
                    && method.getReturnType() == int.class);
        }
        Due.holds("the methods are " + found, found.equals(new TreeSet<>(Arrays.asList(METHODS))));
    }

    private static void constants(Class<?> face) {
        Set<String> found = new TreeSet<>();
        for (Field field : face.getDeclaredFields()) {
            int kind = field.getModifiers();
            Due.holds(field + " is static, but not final", !Modifier.isStatic(kind) || Modifier.isFinal(kind));
            if (!Modifier.isPrivate(kind)) {
                found.add(field.getName());
                Due.holds(field + " is no public constant",
                    Modifier.isPublic(kind) && Modifier.isStatic(kind) && field.getType() == int.class);
            }
        }
        Due.holds("the constants are " + found, found.equals(new TreeSet<>(Arrays.asList(
            "INVALID_ARGUMENT", "LIMIT_REACHED", "NOT_FOUND", "NOT_POSSIBLE"))));
        Due.due("INVALID_ARGUMENT", JoinedLight.INVALID_ARGUMENT, Due.INVALID);
        Due.due("NOT_POSSIBLE", JoinedLight.NOT_POSSIBLE, Due.NOT_POSSIBLE);
        Due.due("LIMIT_REACHED", JoinedLight.LIMIT_REACHED, Due.LIMIT);
        Due.due("NOT_FOUND", JoinedLight.NOT_FOUND, Due.NOT_FOUND);
    }

    private static void classesInside(Class<?> face) {
        for (Class<?> inside : face.getDeclaredClasses()) {
            int kind = inside.getModifiers();
            Due.holds(inside + " is not static, or public or protected",
                Modifier.isStatic(kind) && !Modifier.isPublic(kind) && !Modifier.isProtected(kind));
        }
    }
}
