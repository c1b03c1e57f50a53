import java.lang.reflect.Constructor;
import java.lang.reflect.Field;
import java.lang.reflect.Member;
import java.lang.reflect.Method;
import java.lang.reflect.Modifier;
import java.util.Arrays;
import java.util.Set;
import java.util.TreeSet;
import java.util.stream.Collectors;

/** The public face as the document tells it: each constant, the constructor, each method with its exceptions; no more. */
public final class FaceTest {
    private static final String NO_SUCH = "java.util.NoSuchElementException";
    private static final String ILLEGAL = "java.lang.IllegalArgumentException";

    private static final String[] DUE = {
        "public static final int NONE",
        "public RingDater()",
        "public int feed(int,int,int,int,int)",
        "public int yard(int) throws " + ILLEGAL,
        "public int fault()",
        "public int count(int) throws " + NO_SUCH,
        "public int timber(int,int) throws " + NO_SUCH,
        "public int house(int,int) throws " + NO_SUCH,
        "public int ring(int,int,int) throws " + NO_SUCH,
        "public int index(int)",
        "public int depth(int)",
        "public int pointer(int,int) throws " + NO_SUCH,
        "public int slid(int,int,int,int) throws " + NO_SUCH + "," + ILLEGAL,
        "public int best(int,int,int) throws " + NO_SUCH + "," + ILLEGAL,
        "public int link(int,int) throws " + NO_SUCH,
        "public int grown(int,int) throws " + NO_SUCH,
        "public int help(int,int) throws " + NO_SUCH + "," + ILLEGAL,
        "public int date(int,int)",
        "public int settle(int)",
        "public int grow()",
        "public int mend(int,int,boolean)",
        "public int doubt(int,int)",
        "public int move(int,int)",
        "public int undo()",
        "public int note(int,int)",
        "public int fits(int) throws " + NO_SUCH,
        "public int look(int) throws " + NO_SUCH,
        "public void forget()",
        "public int chance(int,int,int,int) throws " + NO_SUCH + "," + ILLEGAL,
        "public int told(int,int) throws " + NO_SUCH,
        "public void image()",
        "public boolean restore()",
    };

    private static int wrong = 0;

    private FaceTest() {
    }

    public static void main(String[] args) {
        members();
        theClass();
        if (RingDater.NONE != -1) {
            tell("NONE is " + RingDater.NONE + ", due is -1");
        }
        System.out.println(wrong == 0 ? "FaceTest: the face is the document's" : "FaceTest: " + wrong + " wrong");
        System.exit(wrong == 0 ? 0 : 1);
    }

    private static void tell(String what) {
        wrong++;
        System.out.println(what);
    }

    private static void members() {
        Set<String> due = new TreeSet<>(Arrays.asList(DUE));
        Set<String> found = new TreeSet<>();
        for (Field field : RingDater.class.getDeclaredFields()) {
            add(found, field, Modifier.toString(field.getModifiers()) + " " + field.getType() + " " + field.getName());
        }
        for (Constructor<?> made : RingDater.class.getDeclaredConstructors()) {
            add(found, made, "public RingDater(" + types(made.getParameterTypes()) + ")" + exceptions(made.getExceptionTypes()));
        }
        for (Method method : RingDater.class.getDeclaredMethods()) {
            add(found, method, Modifier.toString(method.getModifiers()) + " " + method.getReturnType() + " " + method.getName()
                    + "(" + types(method.getParameterTypes()) + ")" + exceptions(method.getExceptionTypes()));
        }
        for (String member : due) {
            if (!found.contains(member)) {
                tell("it isn't there: " + member);
            }
        }
        for (String member : found) {
            if (!due.contains(member)) {
                tell("the document doesn't name it: " + member);
            }
        }
    }

    /** What isn't private is the face; what the compiler puts in is nobody's. */
    private static void add(Set<String> found, Member member, String told) {
        if (!Modifier.isPrivate(member.getModifiers()) && !member.isSynthetic()) {
            found.add(told);
        }
    }

    private static String types(Class<?>[] types) {
        return Arrays.stream(types).map(Class::getName).collect(Collectors.joining(","));
    }

    private static String exceptions(Class<?>[] types) {
        return types.length == 0 ? "" : " throws " + types(types);
    }

    private static void theClass() {
        Class<?> face = RingDater.class;
        if (face.getModifiers() != (Modifier.PUBLIC | Modifier.FINAL)) {
            tell("the class is " + Modifier.toString(face.getModifiers()));
        }
        if (face.getSuperclass() != Object.class || face.getInterfaces().length > 0) {
            tell("the class is of another one");
        }
        if (!face.getPackageName().isEmpty()) {
            tell("the class has a package");
        }
        for (Class<?> inside : face.getDeclaredClasses()) {
            if (!Modifier.isStatic(inside.getModifiers()) || Modifier.isPublic(inside.getModifiers())
                    || Modifier.isProtected(inside.getModifiers())) {
                tell("a class inside is " + Modifier.toString(inside.getModifiers()) + ": " + inside.getName());
            }
        }
    }
}
