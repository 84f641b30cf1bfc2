import java.lang.reflect.Constructor;
import java.lang.reflect.Field;
import java.lang.reflect.Method;
import java.lang.reflect.Modifier;
import java.util.ArrayList;
import java.util.Arrays;
import java.util.List;
import java.util.TreeSet;

/** The document's face, and the rules of LANGUAGE.md that reflection can see. */
public final class FaceTest {
    private static final String[] FACE = {
        "int feed(int,int,int,int,int)", "boolean end(int)", "int next(int)", "int text()",
        "int fault()", "int foot(int,int)", "int hour()", "boolean mend(int)",
        "int felt(int,int,int)", "int slips(int,int)", "int read(int,int,int,int)",
        "int alarm(int,int,int)", "int alarmed(int,int)", "long tellings()",
        "int mayFeel(int,int)", "boolean shape(int)", "int explain()", "int event(int,int)",
        "int walk(int,int,int,int)", "int walked(int)", "int lined(int,int)", "int paired(int)",
        "long falseShare(int,int,int)", "int gauges()", "int gauge(int)", "int count(int)"};

    public static void main(String[] args) {
        Check.same("NONE", ThreadHouse.NONE, -1);
        face();
        List<Class<?>> all = new ArrayList<>(Arrays.asList(ThreadHouse.class.getDeclaredClasses()));
        all.add(ThreadHouse.class);
        Check.same("classes, at most twelve", all.size() <= 12, true);
        for (Class<?> one : all) {
            rules(one);
        }
        Check.finish();
    }

    private static void face() {
        TreeSet<String> due = new TreeSet<>(Arrays.asList(FACE));
        TreeSet<String> got = new TreeSet<>();
        for (Method method : ThreadHouse.class.getDeclaredMethods()) {
            if (!Modifier.isPrivate(method.getModifiers())) {
                got.add(signature(method));
                Check.same(method.getName() + " is public", Modifier.isPublic(method.getModifiers()), true);
            }
        }
        Check.same("the face is " + got, got.equals(due), true);
        Check.same("final", Modifier.isFinal(ThreadHouse.class.getModifiers()), true);
        Constructor<?>[] made = ThreadHouse.class.getDeclaredConstructors();
        Check.same("constructors", made.length, 1);
        Check.same("its parameters", made[0].getParameterCount(), 0);
        for (Field field : ThreadHouse.class.getDeclaredFields()) {
            boolean isPrivate = Modifier.isPrivate(field.getModifiers());
            Check.same(field.getName() + " hidden", isPrivate, !field.getName().equals("NONE"));
        }
    }

    private static String signature(Method method) {
        StringBuilder text = new StringBuilder();
        text.append(method.getReturnType().getName()).append(' ').append(method.getName()).append('(');
        for (Class<?> type : method.getParameterTypes()) {
            text.append(text.charAt(text.length() - 1) == '(' ? "" : ",").append(type.getName());
        }
        return text.append(')').toString();
    }

    private static void rules(Class<?> one) {
        int fields = 0;
        for (Field field : one.getDeclaredFields()) {
            if (Modifier.isStatic(field.getModifiers())) {
                Check.same(field + " final", Modifier.isFinal(field.getModifiers()), true);
            } else {
                fields++;
            }
        }
        Check.same(one + " fields", fields <= 20, true);
        Check.same(one + " static", one == ThreadHouse.class || Modifier.isStatic(one.getModifiers()), true);
        for (Method method : one.getDeclaredMethods()) {
            Check.same(method + " parameters", method.getParameterCount() <= 7, true);
            boolean ofFace = one == ThreadHouse.class && Modifier.isPublic(method.getModifiers());
            for (String face : FACE) {
                Check.same(method + " is no name of the face",
                        !ofFace && face.contains(" " + method.getName() + "("), false);
            }
        }
    }
}
