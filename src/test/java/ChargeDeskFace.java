import java.lang.reflect.Constructor;
import java.lang.reflect.Field;
import java.lang.reflect.Member;
import java.lang.reflect.Method;
import java.lang.reflect.Modifier;
import java.util.Arrays;
import java.util.Set;
import java.util.TreeSet;

/** The class shows just the members of the document's face, and all else in it is private. */
public final class ChargeDeskFace {
    private static final String[] FACE = {
        "BAD", "NONE", "ZERO", "INDEX", "BAR", "TIRED", "DEEP",
        "new()",
        "int rate(int, int)", "int fresh(int, int)", "int book(int, int, int)",
        "int flat(int, int)", "int rated(int, int)", "int live(int, int)", "int booked(int, int)",
        "int joined(int, int, int, int)", "int when(int, int, int, int)", "int fixed(int, int, int)",
        "int fed(int, int, int)", "int guarded(int, int, int)", "int called(int, int)",
        "int barred(int, int, int)", "int counted(int, int)", "int kept(int, int)",
        "int put(int, int)", "int take(int)",
        "long ask(int, int, int)", "int failed()", "int same(int, int)", "int count(int)",
        "int told(int)", "int clear()",
    };

    private static String listed(Class<?>[] types) {
        StringBuilder text = new StringBuilder("(");
        for (Class<?> type : types) {
            text.append(text.length() > 1 ? ", " : "").append(type.getName());
        }
        return text.append(")").toString();
    }

    private static boolean isShown(Member member) {
        return !Modifier.isPrivate(member.getModifiers());
    }

    public static void main(String[] args) {
        Set<String> shown = new TreeSet<>();
        int wrong = 0;
        if (!Modifier.isFinal(ChargeDesk.class.getModifiers()) || !Modifier.isPublic(ChargeDesk.class.getModifiers())) {
            wrong++;
            System.out.println("the class is not public and final");
        }
        for (Field field : ChargeDesk.class.getDeclaredFields()) {
            if (isShown(field)) {
                shown.add(field.getName());
            }
            if (Modifier.isStatic(field.getModifiers()) && !Modifier.isFinal(field.getModifiers())) {
                wrong++;
                System.out.println("static and not final: " + field);
            }
        }
        for (Constructor<?> constructor : ChargeDesk.class.getDeclaredConstructors()) {
            shown.add("new" + listed(constructor.getParameterTypes()));
        }
        Set<String> publicNames = new TreeSet<>();
        for (Method method : ChargeDesk.class.getDeclaredMethods()) {
            if (isShown(method)) {
                publicNames.add(method.getName());
                shown.add(method.getReturnType().getName() + " " + method.getName() + listed(method.getParameterTypes()));
            }
        }
        for (Method method : ChargeDesk.class.getDeclaredMethods()) {
            if (!isShown(method) && publicNames.contains(method.getName())) {
                wrong++;
                System.out.println("private, by the name of a public one: " + method);
            }
        }
        Set<String> due = new TreeSet<>(Arrays.asList(FACE));
        if (!shown.equals(due)) {
            wrong++;
            System.out.println("the face is " + shown + ", due is " + due);
        }
        System.out.println(wrong == 0 ? "the face is as due" : wrong + " faults in the face");
        if (wrong != 0) {
            System.exit(1);
        }
    }
}
