import java.lang.reflect.Constructor;
import java.lang.reflect.Executable;
import java.lang.reflect.Field;
import java.lang.reflect.Method;
import java.lang.reflect.Modifier;
import java.util.TreeSet;

/** The class has the document's face and no other member that can be seen from outside. */
public final class FaceTest {
    private static final String[] FACE = {
        "int put(int,int,long,long)", "int drop(int)", "int begin(int,long)", "int schedule(int,int)", "int go(int)",
        "int tick(int)", "int interrupt(int)", "long supply(int,int)", "int parties(int,int)", "long set(int,long)",
        "long cell(int)", "int state(int)", "int thread(int,int)", "long register(int,int)", "int monitor(int,int)",
        "int lock(int,int)", "int semaphore(int,int)", "int barrier(int,int)", "long note(int,boolean)",
        "int ring(int)", "int count(int)",
    };

    public static void main(String[] args) {
        Check check = new Check("FaceTest");
        Class<?> face = TurnHall.class;
        check.same("public and final", Modifier.isPublic(face.getModifiers()) && Modifier.isFinal(face.getModifiers())
            ? 1 : 0, 1);
        TreeSet<String> due = new TreeSet<>();
        for (String method : FACE) {
            due.add(method);
        }
        TreeSet<String> seen = new TreeSet<>();
        TreeSet<String> names = new TreeSet<>();
        for (Method method : face.getDeclaredMethods()) {
            if (!Modifier.isPrivate(method.getModifiers())) {
                seen.add(method.getReturnType().getSimpleName() + " " + method.getName() + parameters(method));
                names.add(method.getName());
            }
        }
        check.same("methods", seen.toString(), due.toString());
        for (Method method : face.getDeclaredMethods()) {
            if (Modifier.isPrivate(method.getModifiers())) {
                check.same("private " + method.getName() + " bears a public name",
                    names.contains(method.getName()) ? 1 : 0, 0);
            }
        }
        for (Field field : face.getDeclaredFields()) {
            check.same("private " + field.getName(), Modifier.isPrivate(field.getModifiers()) ? 1 : 0, 1);
            if (Modifier.isStatic(field.getModifiers())) {
                check.same("final " + field.getName(), Modifier.isFinal(field.getModifiers()) ? 1 : 0, 1);
            }
        }
        Constructor<?>[] made = face.getDeclaredConstructors();
        check.same("constructors", made.length, 1);
        check.same("constructor", parameters(made[0]), "(int)");
        check.finish();
    }

    private static String parameters(Executable of) {
        StringBuilder text = new StringBuilder("(");
        for (Class<?> type : of.getParameterTypes()) {
            text.append(text.length() > 1 ? "," : "").append(type.getSimpleName());
        }
        return text.append(")").toString();
    }
}
