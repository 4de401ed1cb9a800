import java.lang.reflect.Constructor;
import java.lang.reflect.Field;
import java.lang.reflect.Method;
import java.lang.reflect.Modifier;
import java.util.HashSet;
import java.util.Set;
import java.util.TreeSet;

/** The class has the document's face, and no other member that is not private. */
public final class FaceTest {
    private static int wrong = 0;

    private static void check(String what, boolean holds) {
        if (!holds) {
            wrong++;
            System.out.println("does not hold: " + what);
        }
    }

    private static String describe(Method method) {
        StringBuilder text = new StringBuilder();
        text.append(method.getReturnType().getSimpleName()).append(' ').append(method.getName()).append('(');
        String comma = "";
        for (Class<?> type : method.getParameterTypes()) {
            text.append(comma).append(type.getSimpleName());
            comma = ",";
        }
        text.append(')');
        for (Class<?> type : method.getExceptionTypes()) {
            text.append(' ').append(type.getSimpleName());
        }
        return text.toString();
    }

    private static void checkMethods() {
        Set<String> found = new TreeSet<>();
        Set<String> publicNames = new HashSet<>();
        for (Method method : PetriNet.class.getDeclaredMethods()) {
            if (Modifier.isPublic(method.getModifiers())) {
                check("not static: " + method, !Modifier.isStatic(method.getModifiers()));
                found.add(describe(method));
                publicNames.add(method.getName());
            } else {
                check("private: " + method, Modifier.isPrivate(method.getModifiers()));
            }
        }
        for (Method method : PetriNet.class.getDeclaredMethods()) {
            if (!Modifier.isPublic(method.getModifiers())) {
                check("own name: " + method, !publicNames.contains(method.getName()));
            }
        }
        for (int i = 0; i < Checks.FACE.length; i++) {
            check("promise " + (i + 2) + " has the method " + Checks.FACE[i], found.remove(Checks.FACE[i]));
        }
        check("no other public method than those of the promises: " + found, found.isEmpty());
    }

    private static void checkFields() throws IllegalAccessException {
        Set<String> found = new TreeSet<>();
        for (Field field : PetriNet.class.getDeclaredFields()) {
            int modifiers = field.getModifiers();
            if (Modifier.isStatic(modifiers)) {
                check("final: " + field, Modifier.isFinal(modifiers));
            }
            if (Modifier.isPublic(modifiers)) {
                check("an int: " + field, field.getType() == int.class);
                check("static: " + field, Modifier.isStatic(modifiers));
                found.add(field.getName() + "=" + field.getInt(null));
            } else {
                check("private: " + field, Modifier.isPrivate(modifiers));
            }
        }
        Set<String> due = new TreeSet<>(Set.of("NONE=-1", "NO_ROOM=-2", "ENABLED=0", "TOO_FEW=1", "INHIBITED=2", "NO_SPACE=3"));
        check("constants due " + due + " but found " + found, due.equals(found));
    }

    private static void checkClasses() {
        check("public and final", Modifier.isPublic(PetriNet.class.getModifiers()) && Modifier.isFinal(PetriNet.class.getModifiers()));
        check("no package", PetriNet.class.getPackageName().isEmpty());
        Constructor<?>[] constructors = PetriNet.class.getDeclaredConstructors();
        check("one constructor", constructors.length == 1);
        check("public constructor without parameters",
            Modifier.isPublic(constructors[0].getModifiers()) && constructors[0].getParameterCount() == 0);
        for (Class<?> inside : PetriNet.class.getDeclaredClasses()) {
            int modifiers = inside.getModifiers();
            check("static: " + inside, Modifier.isStatic(modifiers));
            check("private or package-visible: " + inside, !Modifier.isPublic(modifiers) && !Modifier.isProtected(modifiers));
            for (Field field : inside.getDeclaredFields()) {
                check("static only if final: " + field,
                    !Modifier.isStatic(field.getModifiers()) || Modifier.isFinal(field.getModifiers()));
            }
        }
    }

    public static void main(String[] args) throws IllegalAccessException {
        checkMethods();
        checkFields();
        checkClasses();
        System.out.println(wrong == 0 ? "the face is as due" : wrong + " faults of the face");
        if (wrong != 0) {
            System.exit(1);
        }
    }
}
