import java.io.IOException;
import java.lang.reflect.Constructor;
import java.lang.reflect.Executable;
import java.lang.reflect.Field;
import java.lang.reflect.Method;
import java.lang.reflect.Modifier;
import java.nio.file.Files;
import java.nio.file.Path;
import java.util.ArrayList;
import java.util.Arrays;
import java.util.HashSet;
import java.util.List;
import java.util.Set;
import java.util.TreeSet;

/** The public face, word for word, and what of LANGUAGE.md can be seen from outside. */
public final class FaceTest {
    private static final String A = " throws IllegalArgumentException";
    private static final String[] FACE = {
        "int feed(int,int,int,int,int)",
        "int house(int)" + A,
        "int words(int)" + A,
        "int fault()",
        "int told(int)" + A,
        "int room(int,int) throws IndexOutOfBoundsException,IllegalArgumentException",
        "int wall(int,int) throws IndexOutOfBoundsException",
        "int radiator(int,int) throws NoSuchElementException,IllegalArgumentException",
        "int out(int,int)" + A,
        "int screw(int,int) throws NoSuchElementException,IllegalArgumentException",
        "boolean open(int,boolean) throws IndexOutOfBoundsException",
        "boolean air(int,boolean)" + A,
        "int night(int,int,int)" + A,
        "int go(int)" + A + ",IllegalStateException",
        "int clock(int)" + A,
        "int hunts(int)" + A,
        "int log(int,int,int) throws IndexOutOfBoundsException,IllegalArgumentException",
        "boolean explained(int,int,int)" + A + ",IllegalStateException",
        "int cause(int,int)" + A + ",IllegalStateException",
        "int things()",
        "int balanced(int,int,int) throws NoSuchElementException,IllegalArgumentException,IllegalStateException",
        "int turning(int,int)" + A + ",IllegalStateException",
        "int wake(int,int,int)" + A + ",IllegalStateException",
        "int wish(int,int,int,int) throws NoSuchElementException,IndexOutOfBoundsException,IllegalArgumentException",
        "int error(int,int) throws NoSuchElementException,IllegalArgumentException",
        "int part(int) throws NoSuchElementException",
        "int pays(int,int) throws NoSuchElementException,IllegalArgumentException",
        "int blame(int) throws IndexOutOfBoundsException",
        "int diary(int,int,int) throws IndexOutOfBoundsException,IllegalArgumentException",
        "int cold(int,int,int) throws IndexOutOfBoundsException,IllegalArgumentException",
        "int claim(int)" + A,
        "int judge()",
        "int water(int,int)" + A,
        "int dead(int)" + A,
        "int holiday(int,int,int)" + A,
        "int pump(int)" + A,
        "int gauge(int,int,int)" + A,
        "int burst(int,int)" + A,
        "int wear(int)" + A,
        "int mark()",
        "int back()",
        "int count(int)",
    };
    private static int wrong;

    private static void check(boolean holds, String what) {
        if (!holds) {
            wrong++;
            System.out.println("not so: " + what);
        }
    }

    public static void main(String[] args) throws IOException {
        Class<?> c = BoilerTaps.class;
        check(Modifier.isPublic(c.getModifiers()) && Modifier.isFinal(c.getModifiers()), "public and final");
        check(c.getPackageName().isEmpty(), "no package");
        check(BoilerTaps.NONE == -1, "NONE is -1");
        face(c);
        List<Class<?>> all = new ArrayList<>(Arrays.asList(c.getDeclaredClasses()));
        check(all.size() + 1 <= 12, "at most twelve classes");
        Set<String> names = publicNames(c);
        for (Class<?> inside : all) {
            check(Modifier.isStatic(inside.getModifiers()), inside + " is static");
            check(!Modifier.isPublic(inside.getModifiers()), inside + " is not public");
            check(inside.getDeclaredClasses().length == 0, inside + " has no classes inside");
            for (Method m : inside.getDeclaredMethods()) {
                check(!names.contains(m.getName()), m + " bears no name of the face");
            }
        }
        all.add(c);
        for (Class<?> one : all) {
            sizes(one);
        }
        if (args.length > 0) {
            source(Files.readString(Path.of(args[0])));
        }
        System.out.println(wrong == 0 ? "the face is as told" : wrong + " things are not so");
        if (wrong != 0) {
            System.exit(1);
        }
    }

    private static Set<String> publicNames(Class<?> c) {
        Set<String> names = new HashSet<>();
        for (Method m : c.getDeclaredMethods()) {
            if (Modifier.isPublic(m.getModifiers())) {
                names.add(m.getName());
            }
        }
        return names;
    }

    private static void face(Class<?> c) {
        Set<String> there = new TreeSet<>();
        Set<String> names = publicNames(c);
        for (Method m : c.getDeclaredMethods()) {
            if (Modifier.isPublic(m.getModifiers())) {
                check(!Modifier.isStatic(m.getModifiers()), m + " is no static method");
                there.add(signature(m));
            } else {
                check(Modifier.isPrivate(m.getModifiers()), m + " is private");
                check(!names.contains(m.getName()), m + " bears no name of the face");
            }
        }
        check(there.equals(new TreeSet<>(Arrays.asList(FACE))), "the methods are " + there);
        for (Field f : c.getDeclaredFields()) {
            boolean isNone = f.getName().equals("NONE");
            check(isNone == Modifier.isPublic(f.getModifiers()), f + " is public only if it is NONE");
            check(isNone || Modifier.isPrivate(f.getModifiers()), f + " is private");
        }
        Constructor<?>[] made = c.getDeclaredConstructors();
        check(made.length == 1 && Modifier.isPublic(made[0].getModifiers())
                && made[0].getParameterCount() == 0, "one public constructor without parameters");
    }

    private static String signature(Method m) {
        StringBuilder b = new StringBuilder(m.getReturnType().getSimpleName()).append(' ').append(m.getName());
        b.append('(').append(simple(m.getParameterTypes())).append(')');
        if (m.getExceptionTypes().length > 0) {
            b.append(" throws ").append(simple(m.getExceptionTypes()));
        }
        return b.toString();
    }

    private static String simple(Class<?>[] types) {
        List<String> names = new ArrayList<>();
        for (Class<?> t : types) {
            names.add(t.getSimpleName());
        }
        return String.join(",", names);
    }

    private static void sizes(Class<?> one) {
        int fields = 0;
        for (Field f : one.getDeclaredFields()) {
            boolean isStatic = Modifier.isStatic(f.getModifiers());
            check(!isStatic || Modifier.isFinal(f.getModifiers()), f + " is final, being static");
            fields += isStatic ? 0 : 1;
        }
        check(fields <= 20, one + " has some twenty fields at most");
        List<Executable> calls = new ArrayList<>(Arrays.asList(one.getDeclaredMethods()));
        calls.addAll(Arrays.asList(one.getDeclaredConstructors()));
        for (Executable e : calls) {
            check(e.getParameterCount() <= 7, e + " takes at most seven parameters");
            check(!e.isSynthetic(), e + " is written, not made by the compiler");
        }
    }

    private static void source(String text) {
        for (String no : new String[] {"catch", "synchronized", "assert ", "->", "::", "finally", "package ",
            "System.out", "Object ", "String.", "while (true", "for (;;"}) {
            check(!text.contains(no), "the source does without " + no);
        }
        for (String line : text.split("\n")) {
            if (line.startsWith("import ")) {
                check(line.equals("import java.util.Arrays;")
                        || line.equals("import java.util.NoSuchElementException;"), line + " is allowed");
            }
        }
        for (int i = 0; i < text.length(); i++) {
            check(text.charAt(i) < 128, "sign " + i + " is of the first 128");
        }
        methodsAreShort(text);
    }

    /** A method begins at a line that ends with {, four or eight blanks in, and ends at the like }. */
    private static void methodsAreShort(String text) {
        String[] lines = text.split("\n");
        for (int i = 0; i < lines.length; i++) {
            boolean begins = lines[i].matches("( {4}| {8})[a-z].*\\) .*\\{") && !lines[i].contains(" class ");
            if (!begins) {
                continue;
            }
            String close = lines[i].replaceAll("\\S.*", "") + "}";
            int end = i;
            while (end < lines.length && !lines[end].equals(close)) {
                end++;
            }
            check(end - i < 60, "line " + (i + 1) + " begins a method of at most sixty lines");
        }
    }
}
