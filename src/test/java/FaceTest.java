import java.lang.reflect.Constructor;
import java.lang.reflect.Field;
import java.lang.reflect.Method;
import java.lang.reflect.Modifier;
import java.util.Set;
import java.util.TreeSet;

/** The public face: the members the document lists, with their types, and no other visible one. */
public final class FaceTest {
    private static final Set<String> METHODS = Set.of(
            "int document(int,int)", "int remove(int)", "int term(int,int,int)", "int query(int,int)",
            "int judge(int,int,int)", "int depth(int)", "int train(int,int,int)", "int feature(int,int,int)",
            "int ranked(int,int,boolean)", "long score(int,int)", "long merit(int,boolean)", "long rest(int)",
            "long node(int,int,int)", "int count(int)");
    private static final Set<String> CONSTANTS = Set.of("int DONE", "int REFUSED", "int FULL", "long NONE");

    public static void main(String[] args) {
        constants();
        methods();
        fields();
        constructor();
        classesInside();
        Due.end();
    }

    private static void constants() {
        Due.is("DONE", LearnedRanker.DONE, 0);
        Due.is("REFUSED", LearnedRanker.REFUSED, -1);
        Due.is("FULL", LearnedRanker.FULL, -2);
        Due.is("NONE", LearnedRanker.NONE, -1000000000000000L);
    }

    private static void methods() {
        Set<String> seen = new TreeSet<>();
        Set<String> publicNames = new TreeSet<>();
        for (Method method : LearnedRanker.class.getDeclaredMethods()) {
            if (!Modifier.isPrivate(method.getModifiers())) {
                seen.add(signature(method));
                publicNames.add(method.getName());
                Due.holds(method + " is public, not static", isPublicOfObject(method));
                Due.is("exceptions of " + method, method.getExceptionTypes().length, 0);
            }
        }
        Due.holds("visible methods: " + seen, seen.equals(METHODS));
        for (Method method : LearnedRanker.class.getDeclaredMethods()) {
            boolean isPrivate = Modifier.isPrivate(method.getModifiers());
            Due.holds(method + " shares no public name", !isPrivate || !publicNames.contains(method.getName()));
        }
    }

    private static boolean isPublicOfObject(Method method) {
        return Modifier.isPublic(method.getModifiers()) && !Modifier.isStatic(method.getModifiers());
    }

    private static String signature(Method method) {
        StringBuilder text = new StringBuilder(method.getReturnType() + " " + method.getName() + "(");
        String comma = "";
        for (Class<?> type : method.getParameterTypes()) {
            text.append(comma).append(type);
            comma = ",";
        }
        return text.append(")").toString();
    }

    private static void fields() {
        Set<String> seen = new TreeSet<>();
        for (Field field : LearnedRanker.class.getDeclaredFields()) {
            int kind = field.getModifiers();
            Due.holds(field + " is final if static", !Modifier.isStatic(kind) || Modifier.isFinal(kind));
            if (!Modifier.isPrivate(kind)) {
                seen.add(field.getType() + " " + field.getName());
                Due.holds(field + " is a public constant", Modifier.isPublic(kind) && Modifier.isStatic(kind));
            }
        }
        Due.holds("visible fields: " + seen, seen.equals(CONSTANTS));
    }

    private static void constructor() {
        Constructor<?>[] all = LearnedRanker.class.getDeclaredConstructors();
        Due.is("constructors", all.length, 1);
        Due.is("its parameters", all[0].getParameterCount(), 0);
        Due.holds("it is public", Modifier.isPublic(all[0].getModifiers()));
    }

    private static void classesInside() {
        Due.holds("the class is public and final", LearnedRanker.class.getModifiers() == (Modifier.PUBLIC | Modifier.FINAL));
        for (Class<?> inside : LearnedRanker.class.getDeclaredClasses()) {
            int kind = inside.getModifiers();
            Due.holds(inside + " is static", Modifier.isStatic(kind));
            Due.holds(inside + " is not public or protected", !Modifier.isPublic(kind) && !Modifier.isProtected(kind));
        }
    }
}
