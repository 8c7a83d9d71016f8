import java.lang.reflect.Constructor;
import java.lang.reflect.Field;
import java.lang.reflect.Method;
import java.lang.reflect.Modifier;
import java.util.Set;
import java.util.TreeSet;

/** The public face is the document's, to the letter, and nothing else of the class can be seen (promise 1 and LANGUAGE.md 1, 2). */
public final class FaceTest {
    private static final String FACE = "int thing(int,int,int);int of(int,int);int mark(int,int);int row(int,int,int);"
        + "int take(int);int put();int feed(int);int street();int told(int);int pass(int);int on(int,int);int soon(int);"
        + "int when(int);int most(int);int best(int);int reach(int);int fitting(int,int);int see(int,boolean,int);"
        + "int marked(int,int);int can(int,int);long odds(int,int,int);long mean(int);int week(int,int);int ends(int);"
        + "int book(int,int);int looked();int judge(int,int);int image();int undo();int act(int,int,int);int trace(int);"
        + "int taken(int,int);int count(int);int tape(int,int,int);int item(int,int,long);long read(int,int);"
        + "int shift(int,int,int,int,int)";
    private static int wrong = 0;

    private static void check(boolean isSo, String what) {
        if (!isSo) {
            wrong++;
            System.out.println("FaceTest: " + what);
        }
    }

    private static String signature(Method m) {
        StringBuilder s = new StringBuilder(m.getReturnType().getName()).append(' ').append(m.getName()).append('(');
        for (int i = 0; i < m.getParameterCount(); i++) {
            s.append(i == 0 ? "" : ",").append(m.getParameterTypes()[i].getName());
        }
        return s.append(')').toString();
    }

    private static void methods() {
        Set<String> face = new TreeSet<>(Set.of(FACE.split(";")));
        Set<String> names = new TreeSet<>();
        for (String s : face) names.add(s.substring(s.indexOf(' ') + 1, s.indexOf('(')));
        Set<String> found = new TreeSet<>();
        for (Method m : PickedMatch.class.getDeclaredMethods()) {
            if (Modifier.isPrivate(m.getModifiers())) {
                check(!names.contains(m.getName()), "a private method bears a public name: " + m.getName());
            } else {
                check(Modifier.isPublic(m.getModifiers()) && !Modifier.isStatic(m.getModifiers()), "not public: " + m);
                found.add(signature(m));
            }
        }
        check(found.equals(face), "the methods are " + found);
    }

    private static void fields() throws IllegalAccessException {
        Set<String> found = new TreeSet<>();
        for (Field f : PickedMatch.class.getDeclaredFields()) {
            int modifiers = f.getModifiers();
            if (!Modifier.isPrivate(modifiers)) {
                check(Modifier.isPublic(modifiers) && Modifier.isStatic(modifiers) && Modifier.isFinal(modifiers),
                    "no constant: " + f);
                found.add(f.getType() + " " + f.getName() + " " + f.get(null));
            }
        }
        check(found.equals(Set.of("int NONE -1", "int BAD -2", "int STATE -3", "int FULL -4",
            "long NO -9223372036854775808")), "the constants are " + found);
    }

    private static void classes() {
        Class<?> c = PickedMatch.class;
        check(c.getModifiers() == (Modifier.PUBLIC | Modifier.FINAL), "the class is not public final");
        Constructor<?>[] constructors = c.getDeclaredConstructors();
        check(constructors.length == 1 && constructors[0].getParameterCount() == 0
            && Modifier.isPublic(constructors[0].getModifiers()), "the constructor is not as told");
        for (Class<?> inner : c.getDeclaredClasses()) {
            int modifiers = inner.getModifiers();
            check(Modifier.isStatic(modifiers) && !Modifier.isPublic(modifiers) && !Modifier.isProtected(modifiers),
                "seen from outside, or not static: " + inner);
            int own = 0;
            for (Field f : inner.getDeclaredFields()) {
                boolean isConstant = Modifier.isStatic(f.getModifiers()) && Modifier.isFinal(f.getModifiers());
                check(isConstant || !Modifier.isStatic(f.getModifiers()), "a static field that changes: " + f);
                if (!isConstant) own++;
            }
            check(own <= 20, "more than 20 fields: " + inner);
        }
        check(c.getDeclaredClasses().length < 12, "more than 12 classes");
    }

    public static void main(String[] args) throws IllegalAccessException {
        methods();
        fields();
        classes();
        System.out.println(wrong == 0 ? "FaceTest: the face is as told" : "FaceTest: " + wrong + " faults");
        System.exit(wrong == 0 ? 0 : 1);
    }
}
