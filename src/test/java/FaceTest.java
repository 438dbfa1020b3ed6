import java.lang.reflect.Constructor;
import java.lang.reflect.Field;
import java.lang.reflect.Member;
import java.lang.reflect.Method;
import java.lang.reflect.Modifier;
import java.util.Arrays;
import java.util.Set;
import java.util.TreeSet;

/** The public face: every constant, constructor and method of the document, and nothing else but what is private. */
public final class FaceTest {
    private static final String[] FACE = {"int NONE", "VectorPipes()", "int status()", "long mantissa()", "int exponent()",
        "boolean tray(int, int, int)", "boolean write(int, int, long)", "long read(int, int)",
        "boolean pour(int, int, int, int, int)", "int feed(int, int, int, int, int)", "int program(int)", "int fault(int)",
        "int many(int)", "int element(int, int)", "int scalar(int)", "int word(int)", "int put(int, int, long, int)",
        "int give(int, long, int)", "int poke(int, long, int)", "int strange(int, int)", "int pokeAll(int, int, int)",
        "int peekAll(int, int, int)", "boolean drop(int)", "boolean rule(int, int)", "int run()", "int ran(int)",
        "int time(int, int)", "int sum(int, int)", "int sums(int)", "int roundOf(int, int)", "int partnerOf(int, int)",
        "int stalls(int, int, int)", "int banksFor(int, int, int)", "int worst(int, int)", "int depends(int, int)",
        "int swapGain(int)", "int bestSwap()", "int mark()", "int back()"};

    public static void main(String[] args) {
        Class<VectorPipes> face = VectorPipes.class;
        Set<String> due = new TreeSet<>(Arrays.asList(FACE));
        Set<String> found = new TreeSet<>();
        Set<String> names = new TreeSet<>();
        for (Field field : face.getDeclaredFields()) {
            boolean constant = Modifier.isStatic(field.getModifiers()) && Modifier.isFinal(field.getModifiers());
            add(found, field, constant, field.getType() + " " + field.getName());
        }
        for (Constructor<?> made : face.getDeclaredConstructors()) {
            add(found, made, true, "VectorPipes" + listed(made.getParameterTypes()));
        }
        for (Method method : face.getDeclaredMethods()) {
            boolean own = !Modifier.isStatic(method.getModifiers()) && method.getExceptionTypes().length == 0;
            add(found, method, own, method.getReturnType() + " " + method.getName() + listed(method.getParameterTypes()));
            Check.due(method.getName() + " is the name of one method", names.add(method.getName()), true);
        }
        for (String one : due) {
            Check.due(one + " is there", found.contains(one), true);
        }
        for (String one : found) {
            Check.due(one + " is the document's", due.contains(one), true);
        }
        Check.due("the class is public", Modifier.isPublic(face.getModifiers()), true);
        Check.due("the class is final", Modifier.isFinal(face.getModifiers()), true);
        Check.due("the class has no package", face.getPackageName().isEmpty(), true);
        Check.due("the class is of no other", face.getSuperclass() == Object.class && face.getInterfaces().length == 0, true);
        Check.due("NONE", VectorPipes.NONE, -1);
        inside(face);
        Check.end();
    }

    private static void add(Set<String> found, Member member, boolean asTold, String form) {
        if (!Modifier.isPrivate(member.getModifiers()) && !member.isSynthetic()) {
            boolean open = Modifier.isPublic(member.getModifiers()) && asTold;
            found.add(open ? form : form + ", but not so");
        }
    }

    private static String listed(Class<?>[] types) {
        StringBuilder all = new StringBuilder("(");
        for (Class<?> type : types) {
            all.append(all.length() > 1 ? ", " : "").append(type.getName());
        }
        return all.append(')').toString();
    }

    /** The classes inside are not seen from outside. */
    private static void inside(Class<?> face) {
        for (Class<?> one : face.getDeclaredClasses()) {
            int ways = one.getModifiers();
            Check.due(one + " is static", Modifier.isStatic(ways), true);
            Check.due(one + " is not seen", !Modifier.isPublic(ways) && !Modifier.isProtected(ways), true);
        }
    }
}
