import java.lang.reflect.Constructor;
import java.lang.reflect.Field;
import java.lang.reflect.Method;
import java.lang.reflect.Modifier;
import java.util.ArrayList;
import java.util.Arrays;
import java.util.List;
import java.util.Set;
import java.util.TreeSet;

/** The public face of the document, as it is seen from outside. */
public final class FaceTest {
    private static final String[] FACE = {
        "int put(int,int,int) IllegalArgumentException,IllegalStateException",
        "int putBehind(int,int,int,int) IndexOutOfBoundsException,IllegalArgumentException,IllegalStateException",
        "int remove(int) IndexOutOfBoundsException",
        "int change(int,int) IndexOutOfBoundsException,IllegalArgumentException",
        "int restart(int) IndexOutOfBoundsException",
        "int goOn(int) IndexOutOfBoundsException",
        "int take(int) IndexOutOfBoundsException,IllegalStateException",
        "int fire() ",
        "int together() ",
        "int append(int) IllegalArgumentException,IllegalStateException",
        "int clearBuffer() ",
        "int firstError() ",
        "int putAll() IllegalArgumentException",
        "int undo() IllegalStateException",
        "int refusal(int) ",
        "int thing(int,int) IndexOutOfBoundsException,IllegalArgumentException",
        "int at(int) IllegalArgumentException",
        "int cell(int,int) IndexOutOfBoundsException,IllegalArgumentException",
        "int walker(int,int) IndexOutOfBoundsException,IllegalArgumentException",
        "int count(int) IllegalArgumentException",
        "int begins(int) IllegalArgumentException",
        "int gap(int) IllegalArgumentException",
        "int ifFired(int,int) IllegalArgumentException",
        "int room(int,boolean) IllegalArgumentException",
        "double fullness() ",
        "long digest() ",
    };

    private static int wrong = 0;

    private static void due(String what, Object want, Object got) {
        if (!want.equals(got)) {
            wrong++;
            System.out.println(what + " is " + got + ", due is " + want);
        }
    }

    private static String names(Class<?>[] classes) {
        List<String> names = new ArrayList<>();
        for (Class<?> c : classes) {
            names.add(c.getSimpleName());
        }
        return String.join(",", names);
    }

    private static void face() {
        Class<?> c = StampedSlots.class;
        due("the class's modifiers", Modifier.PUBLIC | Modifier.FINAL, c.getModifiers());
        Set<String> open = new TreeSet<>();
        Set<String> openNames = new TreeSet<>();
        List<String> hidden = new ArrayList<>();
        for (Method m : c.getDeclaredMethods()) {
            if (m.isSynthetic()) {
                continue;
            }
            if (Modifier.isPrivate(m.getModifiers())) {
                hidden.add(m.getName());
            } else {
                due(m + ": its modifiers", Modifier.PUBLIC, m.getModifiers());
                openNames.add(m.getName());
                open.add(m.getReturnType().getSimpleName() + " " + m.getName() + "(" + names(m.getParameterTypes())
                        + ") " + names(m.getExceptionTypes()));
            }
        }
        due("the methods", new TreeSet<>(Arrays.asList(FACE)), open);
        for (Class<?> inner : c.getDeclaredClasses()) {
            due(inner + " is static", true, Modifier.isStatic(inner.getModifiers()));
            for (Method m : inner.getDeclaredMethods()) {
                if (Modifier.isPrivate(m.getModifiers())) {
                    hidden.add(m.getName());
                }
            }
        }
        for (String name : hidden) {
            due("a private method bears the public name " + name, false, openNames.contains(name));
        }
        for (Field f : c.getDeclaredFields()) {
            boolean isFace = f.getName().equals("NONE");
            due(f + " is private", !isFace, Modifier.isPrivate(f.getModifiers()));
            due(f + " is final", true, Modifier.isFinal(f.getModifiers()));
        }
        due("NONE", -1, StampedSlots.NONE);
        Constructor<?>[] all = c.getDeclaredConstructors();
        due("constructors", 1, all.length);
        due("the constructor", "public StampedSlots()", all[0].toString());
    }

    public static void main(String[] args) {
        face();
        System.out.println(wrong == 0 ? "FaceTest: the face is as told" : wrong + " are wrong");
        if (wrong != 0) {
            System.exit(1);
        }
    }
}
