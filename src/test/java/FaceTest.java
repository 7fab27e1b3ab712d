import java.lang.reflect.Constructor;
import java.lang.reflect.Field;
import java.lang.reflect.Method;
import java.lang.reflect.Modifier;
import java.util.HashSet;
import java.util.Set;
import java.util.TreeSet;

/** The public face of the document, and no member beyond it that others could reach. */
public final class FaceTest {
    private static final Check CHECK = new Check();
    private static final String INDEX = "IndexOutOfBoundsException";
    private static final String ARGUMENT = "IllegalArgumentException";
    private static final String TOO_MUCH = "UnsupportedOperationException";
    private static final String STATE = "IllegalStateException";

    public static void main(String[] args) {
        int modifiers = BoxPacker.class.getModifiers();
        CHECK.isTrue("public final class", Modifier.isPublic(modifiers) && Modifier.isFinal(modifiers));
        Set<String> due = dueMembers();
        Set<String> found = reachableMembers();
        for (String member : due) {
            CHECK.isTrue("there is " + member, found.contains(member));
        }
        for (String member : found) {
            CHECK.isTrue("the document has " + member, due.contains(member));
        }
        innerClasses();
        namesOfPrivateMethods();
        CHECK.finish();
    }

    private static Set<String> dueMembers() {
        Set<String> due = new TreeSet<>();
        due.add("public static final int RUNNING");
        due.add("public static final int NONE");
        due.add("public BoxPacker()");
        due.add(method("int leaf(int,int,int,int)", ARGUMENT, TOO_MUCH));
        due.add(method("int rule(int,int,int)", ARGUMENT, TOO_MUCH));
        due.add(method("int glue(int,int,int,int,int)", ARGUMENT, TOO_MUCH));
        due.add(method("int kern(int)", ARGUMENT, TOO_MUCH));
        due.add(method("int box(int,int)", INDEX, ARGUMENT, TOO_MUCH));
        due.add(method("boolean keep(int)"));
        due.add(method("int items()"));
        due.add(method("int pack(boolean,int,int,int)", ARGUMENT, TOO_MUCH, STATE));
        due.add(method("int boxes()"));
        due.add(method("int of(int,int)", INDEX));
        due.add(method("int place(int,int)", INDEX));
        due.add(method("int lay(int,int,int)", INDEX, ARGUMENT));
        due.add(method("long mark(int,int)", INDEX));
        return due;
    }

    private static String method(String signature, String... exceptions) {
        StringBuilder text = new StringBuilder("public ").append(signature);
        for (int i = 0; i < exceptions.length; i++) {
            text.append(i == 0 ? " throws " : ",").append(exceptions[i]);
        }
        return text.toString();
    }

    private static Set<String> reachableMembers() {
        Set<String> found = new TreeSet<>();
        for (Field field : BoxPacker.class.getDeclaredFields()) {
            if (!Modifier.isPrivate(field.getModifiers())) {
                found.add(field.toString().replace("BoxPacker.", ""));
            }
        }
        for (Constructor<?> constructor : BoxPacker.class.getDeclaredConstructors()) {
            found.add(constructor.toString());
        }
        for (Method method : BoxPacker.class.getDeclaredMethods()) {
            if (!Modifier.isPrivate(method.getModifiers())) {
                found.add(method.toString().replace("BoxPacker.", "").replace("java.lang.", ""));
            }
        }
        return found;
    }

    private static void innerClasses() {
        for (Class<?> inner : BoxPacker.class.getDeclaredClasses()) {
            int modifiers = inner.getModifiers();
            CHECK.isTrue(inner + " is static", Modifier.isStatic(modifiers));
            CHECK.isTrue(inner + " is not public", !Modifier.isPublic(modifiers));
            CHECK.isTrue(inner + " is not protected", !Modifier.isProtected(modifiers));
        }
    }

    private static void namesOfPrivateMethods() {
        Set<String> publicNames = new HashSet<>();
        for (Method method : BoxPacker.class.getMethods()) {
            publicNames.add(method.getName());
        }
        for (Method method : BoxPacker.class.getDeclaredMethods()) {
            if (Modifier.isPrivate(method.getModifiers())) {
                CHECK.isTrue(method + " has a name of its own", !publicNames.contains(method.getName()));
            }
        }
    }
}
