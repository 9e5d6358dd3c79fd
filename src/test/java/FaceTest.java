import java.lang.reflect.Constructor;
import java.lang.reflect.Field;
import java.lang.reflect.Method;
import java.lang.reflect.Modifier;
import java.util.Arrays;
import java.util.TreeSet;

/** The public face: the members of the document, and no others that are not private. */
public final class FaceTest {
    private static final String[] METHODS = {
        "void segment int int int int int", "long word int int long", "long at int int", "int allow int",
        "int root int int", "int follow int int int", "int element int int int", "long number int int int long",
        "double real int boolean int", "long item int int", "int look int int", "void begin int",
        "int struct int int int int int", "int list int int int int int int int", "void put int int int long",
        "void putReal int boolean int double", "int pack", "int octet int", "int feed long int", "int drop",
        "int take", "int canonical", "int count int"};

    public static void main(String[] args) {
        TreeSet<String> due = new TreeSet<>(Arrays.asList(METHODS));
        TreeSet<String> names = new TreeSet<>();
        for (String method : METHODS) {
            names.add(method.split(" ")[1]);
        }
        TreeSet<String> found = new TreeSet<>();
        for (Method method : SegmentDesk.class.getDeclaredMethods()) {
            if (Modifier.isPrivate(method.getModifiers())) {
                if (names.contains(method.getName())) {
                    Check.tell("a private method is named " + method.getName());
                }
            } else if (Modifier.isPublic(method.getModifiers()) && !Modifier.isStatic(method.getModifiers())) {
                found.add(signature(method));
            } else {
                Check.tell("not private: " + method);
            }
        }
        if (!found.equals(due)) {
            Check.tell("methods are " + found + ", due are " + due);
        }
        inside(names);
        fields();
        constructors();
        Check.is(Modifier.PUBLIC | Modifier.FINAL, () -> SegmentDesk.class.getModifiers());
        Check.end();
    }

    /** The classes inside are static, and their methods bear no name of the face either. */
    private static void inside(TreeSet<String> names) {
        for (Class<?> type : SegmentDesk.class.getDeclaredClasses()) {
            if (!Modifier.isStatic(type.getModifiers()) || Modifier.isPublic(type.getModifiers())) {
                Check.tell("not static, or public: " + type);
            }
            for (Method method : type.getDeclaredMethods()) {
                if (names.contains(method.getName())) {
                    Check.tell("a method inside is named " + method.getName());
                }
            }
        }
    }

    private static String signature(Method method) {
        StringBuilder text = new StringBuilder(method.getReturnType() + " " + method.getName());
        for (Class<?> type : method.getParameterTypes()) {
            text.append(' ').append(type);
        }
        return text.toString();
    }

    private static void fields() {
        TreeSet<String> found = new TreeSet<>();
        for (Field field : SegmentDesk.class.getDeclaredFields()) {
            if (!Modifier.isPrivate(field.getModifiers())) {
                found.add(Modifier.toString(field.getModifiers()) + " " + field.getType() + " " + field.getName());
            }
            if (Modifier.isStatic(field.getModifiers()) && !Modifier.isFinal(field.getModifiers())) {
                Check.tell("static, but not final: " + field);
            }
        }
        if (!found.equals(new TreeSet<>(Arrays.asList("public static final int NOTHING",
                "public static final int STRUCT", "public static final int LIST")))) {
            Check.tell("fields are " + found);
        }
    }

    private static void constructors() {
        Constructor<?>[] constructors = SegmentDesk.class.getDeclaredConstructors();
        if (constructors.length != 1 || constructors[0].getParameterCount() != 0
                || !Modifier.isPublic(constructors[0].getModifiers())) {
            Check.tell("constructors are " + Arrays.toString(constructors));
        }
    }
}
