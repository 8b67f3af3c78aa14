import java.lang.reflect.Constructor;
import java.lang.reflect.Executable;
import java.lang.reflect.Field;
import java.lang.reflect.Method;
import java.lang.reflect.Modifier;
import java.util.ArrayList;
import java.util.Arrays;
import java.util.Collections;
import java.util.List;

/** The face of the document: all of it, and nothing beside it (LANGUAGE.md, rules 1 and 2). */
public final class FaceTest {
    private static final Check check = new Check("FaceTest");
    private static final String[] FACE = {
        "int shell(int, int, int)", "int pace(int, int, int)", "int due(int, int, int)", "int shadow(int, int)",
        "int drum(int, int, int)", "int clock(int, int)", "int shake(int, int, int)", "int days(int)",
        "int card(int, int, int, int)", "int mend(int, int)", "int wrong(int, int)", "int cardTold(int, int, int)",
        "int feed(long, int)", "int text()", "int force(int)", "long law(int, int, int)",
        "long place(int, int, int)", "long settle(int, int)", "long table(int, int, int, int)",
        "long refit(int, int)", "int refitTold(int)", "int called(int, int, int)", "int strange(int)",
        "int watch(int, int, int)", "int watched()", "int shakeTold(int, int)", "int count(int)", "int image()",
        "int back()", "int sheet(int, int, int)", "int cell(int, int, int)", "int copy(int, int, int, int, int)",
        "int cards(int, int, int, int)", "int taken(int, int)"};

    public static void main(String[] args) {
        constants();
        members();
        classesInside();
        check.close();
    }

    private static void constants() {
        check.due("NONE", DrumWorld.NONE, -1);
        check.due("BAD", DrumWorld.BAD, -2);
        check.due("STATE", DrumWorld.STATE, -3);
        check.due("FULL", DrumWorld.FULL, -4);
        check.due("NO", DrumWorld.NO, -4611686018427387904L);
        List<String> open = new ArrayList<>();
        for (Field f : DrumWorld.class.getDeclaredFields()) {
            if (!Modifier.isPrivate(f.getModifiers())) {
                open.add(f.getType() + " " + f.getName());
                check.due(f.getName() + " is public static final", f.getModifiers(), 1 + 8 + 16);
            }
            check.holds(f.getName() + " is final, if static",
                !Modifier.isStatic(f.getModifiers()) || Modifier.isFinal(f.getModifiers()));
        }
        same("constants", open, Arrays.asList("int NONE", "int BAD", "int STATE", "int FULL", "long NO"));
    }

    private static void members() {
        check.due("public and final", DrumWorld.class.getModifiers(), Modifier.PUBLIC | Modifier.FINAL);
        Constructor<?>[] made = DrumWorld.class.getDeclaredConstructors();
        check.due("constructors", made.length, 1);
        check.due("without parameters, public", made[0].getParameterCount() + made[0].getModifiers(), 1);
        List<String> open = new ArrayList<>();
        for (Method m : DrumWorld.class.getDeclaredMethods()) {
            if (!Modifier.isPrivate(m.getModifiers())) {
                open.add(m.getReturnType() + " " + m.getName() + parameters(m));
                check.due(m.getName() + " is public", m.getModifiers(), Modifier.PUBLIC);
            } else {
                check.holds(m.getName() + " bears no public name", !isPublicName(m.getName()));
            }
            check.holds(m.getName() + " takes seven at most", m.getParameterCount() <= 7);
        }
        same("methods", open, Arrays.asList(FACE));
    }

    private static void classesInside() {
        Class<?>[] inside = DrumWorld.class.getDeclaredClasses();
        check.holds("some twelve classes", inside.length <= 12);
        for (Class<?> c : inside) {
            check.holds(c + " is static", Modifier.isStatic(c.getModifiers()));
            check.holds(c + " is not open", (c.getModifiers() & (Modifier.PUBLIC | Modifier.PROTECTED)) == 0);
            for (Method m : c.getDeclaredMethods()) {
                check.holds(c + "." + m.getName() + " bears no public name", !isPublicName(m.getName()));
                check.holds(c + "." + m.getName() + " takes seven at most", m.getParameterCount() <= 7);
            }
            for (Field f : c.getDeclaredFields()) {
                check.holds(c + "." + f.getName() + " is final, if static",
                    !Modifier.isStatic(f.getModifiers()) || Modifier.isFinal(f.getModifiers()));
            }
        }
    }

    private static String parameters(Executable e) {
        List<String> types = new ArrayList<>();
        for (Class<?> type : e.getParameterTypes()) {
            types.add(type.getName());
        }
        return "(" + String.join(", ", types) + ")";
    }

    private static boolean isPublicName(String name) {
        for (String one : FACE) {
            if (one.contains(" " + name + "(")) {
                return true;
            }
        }
        return false;
    }

    private static void same(String what, List<String> got, List<String> want) {
        List<String> sorted = new ArrayList<>(want);
        Collections.sort(got);
        Collections.sort(sorted);
        if (!got.equals(sorted)) {
            System.out.println("FaceTest: " + what + ": " + got);
        }
        check.holds(what + " are those of the document", got.equals(sorted));
    }
}
