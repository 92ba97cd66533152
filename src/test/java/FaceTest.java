import java.lang.reflect.Constructor;
import java.lang.reflect.Field;
import java.lang.reflect.Method;
import java.lang.reflect.Modifier;
import java.util.Arrays;
import java.util.TreeSet;

/** The public face is the document's, and nothing else can be seen from outside. */
public final class FaceTest {
    private static final String[] FACE = {
        "int make(int) IllegalArgumentException IllegalStateException",
        "int buffer(long, int) IllegalArgumentException IllegalStateException",
        "int view(int, int, int, int) IllegalArgumentException IllegalStateException",
        "int stamp(long) IllegalStateException",
        "void put(int, int, int, int) IllegalArgumentException IllegalStateException",
        "boolean take(int, int) IllegalArgumentException",
        "void entry(int, int, int, int, int) IllegalArgumentException IllegalStateException",
        "boolean add(int, int, int) IllegalArgumentException IllegalStateException",
        "boolean detach(int)",
        "int clear()",
        "int objects()",
        "int type(int)",
        "int size(int)",
        "long get(int, int, int) IndexOutOfBoundsException",
        "int pass(int) IllegalArgumentException IllegalStateException",
        "int holders()",
        "int write(int, int) IllegalArgumentException NoSuchElementException",
        "int read() IllegalArgumentException",
        "int found()",
        "int feed(long, int)",
        "int wipe()",
        "boolean spoil(int, int)",
        "int byteAt(int)",
    };

    public static void main(String[] args) {
        Class<?> face = CopiedGraphs.class;
        Check.yes("public", Modifier.isPublic(face.getModifiers()));
        Check.yes("final", Modifier.isFinal(face.getModifiers()));
        Check.due("NONE", CopiedGraphs.NONE, -1);
        methods(face);
        fields(face);
        classes(face);
        Constructor<?>[] constructors = face.getDeclaredConstructors();
        Check.due("constructors", constructors.length, 1);
        Check.due("its parameters", constructors[0].getParameterCount(), 0);
        Check.yes("public constructor", Modifier.isPublic(constructors[0].getModifiers()));
        Check.end();
    }

    private static void methods(Class<?> face) {
        TreeSet<String> want = new TreeSet<>(Arrays.asList(FACE));
        TreeSet<String> got = new TreeSet<>();
        TreeSet<String> publicNames = new TreeSet<>();
        TreeSet<String> privateNames = new TreeSet<>();
        for (Method m : face.getDeclaredMethods()) {
            if (m.isSynthetic()) {
                continue;
            }
            if (Modifier.isPrivate(m.getModifiers())) {
                privateNames.add(m.getName());
            } else {
                got.add(signature(m));
                publicNames.add(m.getName());
                Check.yes(m.getName() + " is public", Modifier.isPublic(m.getModifiers()));
            }
        }
        if (!got.equals(want)) {
            Check.report("the methods are " + got + ", due are " + want);
        }
        privateNames.retainAll(publicNames);
        Check.due("private methods with a public name", privateNames.size(), 0);
    }

    private static String signature(Method m) {
        StringBuilder text = new StringBuilder();
        text.append(m.getReturnType().getSimpleName()).append(' ').append(m.getName()).append('(');
        String between = "";
        for (Class<?> parameter : m.getParameterTypes()) {
            text.append(between).append(parameter.getSimpleName());
            between = ", ";
        }
        text.append(')');
        for (Class<?> thrown : m.getExceptionTypes()) {
            text.append(' ').append(thrown.getSimpleName());
        }
        return text.toString();
    }

    private static void fields(Class<?> face) {
        for (Field f : face.getDeclaredFields()) {
            boolean hidden = Modifier.isPrivate(f.getModifiers()) || f.isSynthetic();
            Check.yes(f.getName() + " is private", hidden || f.getName().equals("NONE"));
            if (Modifier.isStatic(f.getModifiers())) {
                Check.yes(f.getName() + " is final", Modifier.isFinal(f.getModifiers()));
            }
        }
    }

    private static void classes(Class<?> face) {
        for (Class<?> inside : face.getDeclaredClasses()) {
            int modifiers = inside.getModifiers();
            Check.yes(inside.getName() + " is static", Modifier.isStatic(modifiers));
            Check.no(inside.getName() + " is public", Modifier.isPublic(modifiers));
            Check.no(inside.getName() + " is protected", Modifier.isProtected(modifiers));
        }
        Check.yes("at most twelve classes", face.getDeclaredClasses().length < 12);
    }
}
