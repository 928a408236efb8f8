import java.lang.reflect.Constructor;
import java.lang.reflect.Field;
import java.lang.reflect.Method;
import java.lang.reflect.Modifier;
import java.util.Set;
import java.util.TreeSet;

/** The public face is that of the document, and no more (rule 1 of LANGUAGE.md). */
public final class FaceTest {
    private static final Check C = new Check();
    private static final String[] METHODS = {
        "int set(int,int)", "int answer(int,int,int,int)", "int read(int,int,int)", "int said(int,int)",
        "int type(int)", "int wipe()", "int fault()", "int needed(int,int,int)", "int errors(int,int)",
        "int off(int)", "int row(int)", "int step(int,int)", "int offBy(int)", "long fit(int,int)", "int odd()",
        "int without(int,int)", "int worst(int)", "int states(int)", "int belongs(int,int)", "int next(int,int)",
        "int paths()", "int deep(int)", "int sure(int,int,int)", "long chance(int,int,int,int,int)",
        "long share(int,int,int,int,int)", "int likeliest(int,int,int)", "int lessons(int,int)",
        "int sheet(int,int,int)", "int lose(int)", "int lay(int,int,int,int)", "int get(int,int,int)",
        "int copy(int,int,int,int,int)", "int write(int)", "int count(int)", "long digest()"};

    public static void main(String[] args) {
        constants();
        methods();
        fields();
        nested();
        C.finish();
    }

    private static void constants() {
        C.due("NONE", EasyToHard.NONE, -1);
        C.due("BAD", EasyToHard.BAD, -2);
        C.due("NOT", EasyToHard.NOT, -3);
        C.due("FULL", EasyToHard.FULL, -4);
    }

    private static String shape(Method m) {
        StringBuilder shape = new StringBuilder(m.getReturnType() + " " + m.getName() + "(");
        for (Class<?> p : m.getParameterTypes()) {
            shape.append(shape.charAt(shape.length() - 1) == '(' ? "" : ",").append(p.getSimpleName());
        }
        return shape.append(")").toString();
    }

    private static void methods() {
        Set<String> due = new TreeSet<>(Set.of(METHODS));
        Set<String> names = publicNames();
        for (Method m : EasyToHard.class.getDeclaredMethods()) {
            if (Modifier.isPrivate(m.getModifiers())) {
                C.holds("private " + m.getName() + " has a name of its own", !names.contains(m.getName()));
            } else {
                boolean isPlain = m.getModifiers() == Modifier.PUBLIC;
                C.holds(shape(m) + " is of the face", isPlain && due.remove(shape(m)));
            }
        }
        C.holds("not there: " + due, due.isEmpty());
        Constructor<?>[] constructors = EasyToHard.class.getDeclaredConstructors();
        C.due("constructors", constructors.length, 1);
        C.due("of no arguments", constructors[0].getParameterCount(), 0);
        C.due("public", constructors[0].getModifiers(), Modifier.PUBLIC);
        C.due("the class is public and final", EasyToHard.class.getModifiers(), Modifier.PUBLIC | Modifier.FINAL);
    }

    private static Set<String> publicNames() {
        Set<String> names = new TreeSet<>();
        for (Method m : EasyToHard.class.getDeclaredMethods()) {
            if (Modifier.isPublic(m.getModifiers())) {
                names.add(m.getName());
            }
        }
        return names;
    }

    private static void fields() {
        Set<String> constants = Set.of("NONE", "BAD", "NOT", "FULL");
        for (Field f : EasyToHard.class.getDeclaredFields()) {
            boolean isPrivate = Modifier.isPrivate(f.getModifiers());
            C.holds("field " + f.getName(), isPrivate != constants.contains(f.getName()));
            C.holds("static fields are final: " + f.getName(),
                    !Modifier.isStatic(f.getModifiers()) || Modifier.isFinal(f.getModifiers()));
        }
    }

    private static void nested() {
        Class<?>[] classes = EasyToHard.class.getDeclaredClasses();
        C.holds("at most twelve classes", classes.length + 1 <= 12);
        for (Class<?> c : classes) {
            C.holds(c.getName() + " is static", Modifier.isStatic(c.getModifiers()));
            C.holds(c.getName() + " is not public", !Modifier.isPublic(c.getModifiers()));
            int fields = 0;
            for (Field f : c.getDeclaredFields()) {
                fields += Modifier.isStatic(f.getModifiers()) ? 0 : 1;
            }
            C.holds(c.getName() + " has at most twenty fields", fields <= 20);
            for (Method m : c.getDeclaredMethods()) {
                C.holds(c.getName() + "." + m.getName(), !publicNames().contains(m.getName()));
            }
        }
    }
}
