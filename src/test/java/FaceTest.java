import java.lang.reflect.Constructor;
import java.lang.reflect.Field;
import java.lang.reflect.Member;
import java.lang.reflect.Method;
import java.lang.reflect.Modifier;
import java.nio.file.Files;
import java.nio.file.Path;
import java.util.ArrayList;
import java.util.List;
import java.util.Set;
import java.util.TreeSet;

/** The public face of the document, each method with its throws clause, and what LANGUAGE.md says of the members. */
public final class FaceTest {
    private static final String INDEX = "IndexOutOfBoundsException";
    private static final String BAD = "IllegalArgumentException";
    private static final String STATE = "IllegalStateException";
    private static final String[] FACE = {
        "int write(int,int) " + INDEX + " " + BAD + " " + STATE,
        "int hammer(int,int,int) " + INDEX + " " + BAD,
        "int exchange(int,int) " + INDEX,
        "int wear(int,int,int) " + INDEX + " " + BAD + " " + STATE,
        "int set(int,int) " + INDEX + " " + BAD,
        "int append(int) " + BAD + " " + STATE,
        "int clearBuffer()",
        "int firstError()",
        "int writeAll() " + BAD,
        "int undo() " + STATE,
        "int read(int) " + INDEX,
        "int word(int,int) " + INDEX + " " + BAD,
        "int slot(int,int) " + INDEX + " " + BAD,
        "int wearOf(int,int) " + INDEX,
        "int count(int) " + BAD,
        "int setting(int) " + INDEX,
        "int cost(int,int) " + INDEX + " " + BAD,
        "int ifWritten(int,int) " + INDEX + " " + BAD,
        "int costliest(int) " + INDEX,
        "int life(int,int) " + INDEX + " " + BAD,
        "double share()",
        "long digest()",
    };
    private static final String[] RULED_OUT = {
        "package ", "import ", "->", "::", "try", "catch", "finally", "assert", "synchronized", "Double.", "equals(",
        "hashCode", "toString", "System.out", "System.nanoTime", "Exact(", "getMessage",
    };

    public static void main(String[] args) throws Exception {
        Set<String> names = new TreeSet<>();
        faceMethods(names);
        constantsAndConstructors();
        innerClasses(names);
        source();
        Check.end();
    }

    private static void faceMethods(Set<String> names) {
        Set<String> due = new TreeSet<>(List.of(FACE));
        Set<String> got = new TreeSet<>();
        for (Method method : InsideOutWords.class.getDeclaredMethods()) {
            if (Modifier.isPrivate(method.getModifiers()) || method.isSynthetic()) {
                continue;
            }
            Check.is(method + " is plainly public", Modifier.PUBLIC, method.getModifiers());
            names.add(method.getName());
            got.add(signature(method));
        }
        if (!due.equals(got)) {
            Check.complain("the methods are " + got + ", due are " + due);
        }
        for (Method method : InsideOutWords.class.getDeclaredMethods()) {
            boolean hides = Modifier.isPrivate(method.getModifiers()) && names.contains(method.getName());
            Check.is(method + " has a name of its own", 0, hides ? 1 : 0);
        }
    }

    private static String signature(Method method) {
        List<String> parameters = new ArrayList<>();
        for (Class<?> type : method.getParameterTypes()) {
            parameters.add(type.getName());
        }
        StringBuilder text = new StringBuilder(method.getReturnType().getName());
        text.append(' ').append(method.getName()).append('(').append(String.join(",", parameters)).append(')');
        for (Class<?> thrown : method.getExceptionTypes()) {
            text.append(' ').append(thrown.getSimpleName());
        }
        return text.toString();
    }

    private static void constantsAndConstructors() {
        Check.is("the class", Modifier.PUBLIC | Modifier.FINAL, InsideOutWords.class.getModifiers());
        Check.is("NONE", -1, InsideOutWords.NONE);
        Constructor<?>[] constructors = InsideOutWords.class.getDeclaredConstructors();
        Check.is("constructors", 1, constructors.length);
        Check.is("it is public", Modifier.PUBLIC, constructors[0].getModifiers());
        Check.is("its parameters", 0, constructors[0].getParameterCount());
        for (Field field : InsideOutWords.class.getDeclaredFields()) {
            boolean hidden = Modifier.isPrivate(field.getModifiers());
            Check.is(field + " is private", field.getName().equals("NONE") ? 0 : 1, hidden ? 1 : 0);
        }
    }

    private static void innerClasses(Set<String> names) {
        for (Class<?> inner : InsideOutWords.class.getDeclaredClasses()) {
            int exposed = inner.getModifiers() & (Modifier.PUBLIC | Modifier.PROTECTED);
            Check.is(inner + " is not exposed", 0, exposed);
            Check.is(inner + " is static", 1, Modifier.isStatic(inner.getModifiers()) ? 1 : 0);
            for (Field field : inner.getDeclaredFields()) {
                noStaticState(field);
            }
            for (Method method : inner.getDeclaredMethods()) {
                Check.is(method + " has a name of its own", 0, names.contains(method.getName()) ? 1 : 0);
            }
        }
        for (Field field : InsideOutWords.class.getDeclaredFields()) {
            noStaticState(field);
        }
    }

    private static void noStaticState(Member field) {
        boolean state = Modifier.isStatic(field.getModifiers()) && !Modifier.isFinal(field.getModifiers());
        Check.is(field + " is no static state", 0, state ? 1 : 0);
    }

    private static void source() throws Exception {
        String source = Files.readString(Path.of("src/main/java/InsideOutWords.java"));
        String code = source.replaceAll("(?s)/\\*.*?\\*/", "").replaceAll("//[^\n]*", "");
        for (String text : RULED_OUT) {
            Check.is("the source has " + text, -1, code.indexOf(text));
        }
    }
}
