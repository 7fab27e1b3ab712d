import java.lang.reflect.Constructor;
import java.lang.reflect.Executable;
import java.lang.reflect.Field;
import java.lang.reflect.Method;
import java.lang.reflect.Modifier;
import java.lang.reflect.Parameter;
import java.util.HashSet;
import java.util.Set;
import java.util.StringJoiner;
import java.util.TreeSet;

/**
 * The document's section "The public face", and no member beyond it that others could reach. The
 * names of the parameters are seen only when javac is called with -parameters.
 */
public final class FaceTest {
    private static final Check CHECK = new Check();
    /** As it stands in the document. */
    private static final String FACE = """
        public static final int RUNNING = -1073741824;
        public static final int NONE = -1;
        public BoxPacker();
        public int leaf(int tag, int width, int height, int depth) throws IllegalArgumentException, UnsupportedOperationException;
        public int rule(int width, int height, int depth) throws IllegalArgumentException, UnsupportedOperationException;
        public int glue(int width, int stretch, int order, int shrink, int shrinkOrder) throws IllegalArgumentException, UnsupportedOperationException;
        public int kern(int width) throws IllegalArgumentException, UnsupportedOperationException;
        public int box(int box, int shift) throws IndexOutOfBoundsException, IllegalArgumentException, UnsupportedOperationException;
        public boolean keep(int n);
        public int items();
        public int pack(boolean below, int how, int size, int greatest) throws IllegalArgumentException, UnsupportedOperationException, IllegalStateException;
        public int boxes();
        public int of(int box, int what) throws IndexOutOfBoundsException;
        public int place(int box, int i) throws IndexOutOfBoundsException;
        public int lay(int box, int x, int y) throws IndexOutOfBoundsException, IllegalArgumentException;
        public long mark(int i, int what) throws IndexOutOfBoundsException;
        """;

    public static void main(String[] args) throws IllegalAccessException {
        CHECK.isTrue("public final class BoxPacker",
            Modifier.toString(BoxPacker.class.getModifiers()).equals("public final")
                && BoxPacker.class.getName().equals("BoxPacker") && BoxPacker.class.getSuperclass() == Object.class
                && BoxPacker.class.getInterfaces().length == 0);
        Set<String> due = new TreeSet<>(FACE.lines().toList());
        Set<String> found = reachableMembers();
        for (String member : due) {
            CHECK.isTrue("there is " + member, found.contains(member));
        }
        for (String member : found) {
            CHECK.isTrue("the document has " + member, due.contains(member));
        }
        innerClasses();
        namesOfPrivateMethods();
        CHECK.finish();
    }

    private static Set<String> reachableMembers() throws IllegalAccessException {
        Set<String> found = new TreeSet<>();
        for (Field field : BoxPacker.class.getDeclaredFields()) {
            if (!Modifier.isPrivate(field.getModifiers())) {
                found.add(constant(field));
            }
        }
        for (Constructor<?> constructor : BoxPacker.class.getDeclaredConstructors()) {
            found.add(declared(constructor, "BoxPacker"));
        }
        for (Method method : BoxPacker.class.getDeclaredMethods()) {
            if (!Modifier.isPrivate(method.getModifiers())) {
                found.add(declared(method, method.getReturnType() + " " + method.getName()));
            }
        }
        return found;
    }

    private static String constant(Field field) throws IllegalAccessException {
        String text = Modifier.toString(field.getModifiers()) + " " + field.getType() + " " + field.getName();
        return text + (Modifier.isStatic(field.getModifiers()) ? " = " + field.get(null) : "") + ";";
    }

    private static String declared(Executable call, String name) {
        StringJoiner parameters = new StringJoiner(", ", "(", ")");
        for (Parameter parameter : call.getParameters()) {
            parameters.add(parameter.getType() + " " + parameter.getName());
        }
        StringJoiner exceptions = new StringJoiner(", ", " throws ", "").setEmptyValue("");
        for (Class<?> exception : call.getExceptionTypes()) {
            exceptions.add(exception.getSimpleName());
        }
        return Modifier.toString(call.getModifiers()) + " " + name + parameters + exceptions + ";";
    }

    private static void innerClasses() {
        for (Class<?> inner : BoxPacker.class.getDeclaredClasses()) {
            int modifiers = inner.getModifiers();
            CHECK.isTrue(inner + " is static", Modifier.isStatic(modifiers));
            CHECK.isTrue(inner + " is not public", !Modifier.isPublic(modifiers));
            CHECK.isTrue(inner + " is not protected", !Modifier.isProtected(modifiers));
        }
    }

    private static void namesOfPrivateMethods() {
        Set<String> publicNames = new HashSet<>();
        for (Method method : BoxPacker.class.getMethods()) {
            publicNames.add(method.getName());
        }
        for (Method method : BoxPacker.class.getDeclaredMethods()) {
            if (Modifier.isPrivate(method.getModifiers())) {
                CHECK.isTrue(method + " has a name of its own", !publicNames.contains(method.getName()));
            }
        }
    }
}
