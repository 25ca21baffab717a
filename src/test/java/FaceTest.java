import java.lang.reflect.Constructor;
import java.lang.reflect.Field;
import java.lang.reflect.Method;
import java.lang.reflect.Modifier;
import java.util.Arrays;
import java.util.TreeSet;

/** The class has the document's public face, and nothing else that can be seen. */
public final class FaceTest {
    private static final String[] FACE = {
        "int word(int, int) throws IndexOutOfBoundsException",
        "void attribute(int, int, int, int, int) throws IllegalArgumentException",
        "int fetch(int, int, int) throws IllegalArgumentException",
        "int index(int, int, int) throws IllegalArgumentException",
        "int triangles(int, int) throws IllegalArgumentException",
        "int corner(int, int, int) throws IllegalArgumentException",
        "void place(int, int, int, int, int) throws IllegalArgumentException",
        "void vary(int, int, int, int, int, int) throws IllegalArgumentException",
        "void view(int, int, int, int, int, int) throws IllegalArgumentException",
        "void faces(int, boolean) throws IllegalArgumentException",
        "int make()",
        "int side(int) throws IndexOutOfBoundsException",
        "int got(int, int, int) throws IndexOutOfBoundsException, IllegalArgumentException",
        "long area(int) throws IndexOutOfBoundsException",
    };

    public static void main(String[] args) {
        Due due = new Due();
        due.is("modifiers", VertexWork.class.getModifiers(), Modifier.PUBLIC | Modifier.FINAL);
        due.is("NONE", VertexWork.NONE, -1);
        constructors(due);
        fields(due);
        methods(due);
        classesInside(due);
        due.end();
    }

    private static void constructors(Due due) {
        Constructor<?>[] all = VertexWork.class.getDeclaredConstructors();
        due.is("how many constructors", all.length, 1);
        due.is("the constructor's parameters", all[0].getParameterCount(), 0);
        due.is("the constructor is public", all[0].getModifiers(), Modifier.PUBLIC);
    }

    private static void fields(Due due) {
        for (Field f : VertexWork.class.getDeclaredFields()) {
            boolean isNone = f.getName().equals("NONE");
            int seen = Modifier.PUBLIC | Modifier.STATIC | Modifier.FINAL;
            if (isNone ? f.getModifiers() != seen : !Modifier.isPrivate(f.getModifiers())) {
                due.tell("field " + f + " is not as due");
            }
            if (Modifier.isStatic(f.getModifiers()) && !Modifier.isFinal(f.getModifiers())) {
                due.tell("field " + f + " is static and not final");
            }
        }
    }

    private static void methods(Due due) {
        TreeSet<String> left = new TreeSet<>(Arrays.asList(FACE));
        TreeSet<String> names = new TreeSet<>();
        TreeSet<String> hidden = new TreeSet<>();
        for (Method m : VertexWork.class.getDeclaredMethods()) {
            if (Modifier.isPrivate(m.getModifiers())) {
                hidden.add(m.getName());
            } else {
                names.add(m.getName());
                if (m.getModifiers() != Modifier.PUBLIC || !left.remove(written(m))) {
                    due.tell("method " + m + " is not of the face");
                }
            }
        }
        for (String missing : left) {
            due.tell("method " + missing + " is missing");
        }
        for (String name : hidden) {
            if (names.contains(name)) {
                due.tell("a private method bears the public name " + name);
            }
        }
    }

    /** LANGUAGE.md, rules 1 and 11. */
    private static void classesInside(Due due) {
        Class<?>[] all = VertexWork.class.getDeclaredClasses();
        for (Class<?> c : all) {
            int seen = c.getModifiers() & (Modifier.PUBLIC | Modifier.PROTECTED);
            if (seen != 0 || !Modifier.isStatic(c.getModifiers())) {
                due.tell("the class " + c.getName() + " inside is not static, or can be seen");
            }
        }
        if (all.length > 11) {
            due.tell("there are " + all.length + " classes inside");
        }
    }

    private static String written(Method m) {
        StringBuilder b = new StringBuilder();
        b.append(m.getReturnType().getSimpleName()).append(' ').append(m.getName()).append('(');
        b.append(joined(m.getParameterTypes())).append(')');
        if (m.getExceptionTypes().length > 0) {
            b.append(" throws ").append(joined(m.getExceptionTypes()));
        }
        return b.toString();
    }

    private static String joined(Class<?>[] types) {
        StringBuilder b = new StringBuilder();
        for (Class<?> type : types) {
            b.append(b.length() == 0 ? "" : ", ").append(type.getSimpleName());
        }
        return b.toString();
    }
}
