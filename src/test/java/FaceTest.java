import java.io.IOException;
import java.lang.reflect.Constructor;
import java.lang.reflect.Field;
import java.lang.reflect.Method;
import java.lang.reflect.Modifier;
import java.nio.file.Files;
import java.nio.file.Path;
import java.util.ArrayList;
import java.util.Arrays;
import java.util.List;
import java.util.Set;
import java.util.TreeSet;

/** The public face of the document, and rules of LANGUAGE.md that can be seen from outside. */
public final class FaceTest {
    private static final String SOURCE = "src/main/java/StampedSlots.java";

    private static final String[] FACE = {
        "int put(int,int,int) IllegalArgumentException,IllegalStateException",
        "int putBehind(int,int,int,int) IndexOutOfBoundsException,IllegalArgumentException,IllegalStateException",
        "int remove(int) IndexOutOfBoundsException",
        "int change(int,int) IndexOutOfBoundsException,IllegalArgumentException",
        "int restart(int) IndexOutOfBoundsException",
        "int goOn(int) IndexOutOfBoundsException",
        "int take(int) IndexOutOfBoundsException,IllegalStateException",
        "int fire() ",
        "int together() ",
        "int append(int) IllegalArgumentException,IllegalStateException",
        "int clearBuffer() ",
        "int firstError() ",
        "int putAll() IllegalArgumentException",
        "int undo() IllegalStateException",
        "int refusal(int) ",
        "int thing(int,int) IndexOutOfBoundsException,IllegalArgumentException",
        "int at(int) IllegalArgumentException",
        "int cell(int,int) IndexOutOfBoundsException,IllegalArgumentException",
        "int walker(int,int) IndexOutOfBoundsException,IllegalArgumentException",
        "int count(int) IllegalArgumentException",
        "int begins(int) IllegalArgumentException",
        "int gap(int) IllegalArgumentException",
        "int ifFired(int,int) IllegalArgumentException",
        "int room(int,boolean) IllegalArgumentException",
        "double fullness() ",
        "long digest() ",
    };

    private static int wrong = 0;

    private static void due(String what, Object want, Object got) {
        if (!want.equals(got)) {
            wrong++;
            System.out.println(what + " is " + got + ", due is " + want);
        }
    }

    private static String names(Class<?>[] classes) {
        List<String> names = new ArrayList<>();
        for (Class<?> c : classes) {
            names.add(c.getSimpleName());
        }
        return String.join(",", names);
    }

    private static void face() {
        Class<?> c = StampedSlots.class;
        due("the class's modifiers", Modifier.PUBLIC | Modifier.FINAL, c.getModifiers());
        Set<String> open = new TreeSet<>();
        Set<String> openNames = new TreeSet<>();
        List<String> hidden = new ArrayList<>();
        for (Method m : c.getDeclaredMethods()) {
            if (m.isSynthetic()) {
                continue;
            }
            if (Modifier.isPrivate(m.getModifiers())) {
                hidden.add(m.getName());
            } else {
                due(m + ": its modifiers", Modifier.PUBLIC, m.getModifiers());
                openNames.add(m.getName());
                open.add(m.getReturnType().getSimpleName() + " " + m.getName() + "(" + names(m.getParameterTypes())
                        + ") " + names(m.getExceptionTypes()));
            }
        }
        due("the methods", new TreeSet<>(Arrays.asList(FACE)), open);
        for (Class<?> inner : c.getDeclaredClasses()) {
            due(inner + " is static", true, Modifier.isStatic(inner.getModifiers()));
            for (Method m : inner.getDeclaredMethods()) {
                if (Modifier.isPrivate(m.getModifiers())) {
                    hidden.add(m.getName());
                }
            }
        }
        for (String name : hidden) {
            due("a private method bears the public name " + name, false, openNames.contains(name));
        }
        for (Field f : c.getDeclaredFields()) {
            boolean isFace = f.getName().equals("NONE");
            due(f + " is private", !isFace, Modifier.isPrivate(f.getModifiers()));
            due(f + " is final", true, Modifier.isFinal(f.getModifiers()));
        }
        due("NONE", -1, StampedSlots.NONE);
        Constructor<?>[] all = c.getDeclaredConstructors();
        due("constructors", 1, all.length);
        due("the constructor", "public StampedSlots()", all[0].toString());
    }

    private static void source() throws IOException {
        String text = Files.readString(Path.of(SOURCE));
        for (int i = 0; i < text.length(); i++) {
            due("sign " + i + " is plain", true, text.charAt(i) == '\n' || (text.charAt(i) >= 32 && text.charAt(i) < 127));
        }
        for (String word : new String[] {"import ", "package ", "catch", "finally", "synchronized", "assert", "->",
            "::", "Object", "Random", "System.out", "System.nano", "System.current", "Thread", "while", "Exact("}) {
            due(word + " in the source", false, text.contains(word));
        }
        int length = 0;
        for (String line : text.split("\n")) {
            boolean opens = line.endsWith("{") && !line.contains(" class ") && line.matches(" {4,8}\\S.*");
            length = opens ? 0 : length + 1;
            if (line.matches(" {4,8}}") && length > 60) {
                due("a method that ends with " + length + " lines", "short", "long");
            }
        }
    }

    public static void main(String[] args) throws IOException {
        face();
        source();
        System.out.println(wrong == 0 ? "FaceTest: the face is as told" : wrong + " are wrong");
        if (wrong != 0) {
            System.exit(1);
        }
    }
}
