import java.io.IOException;
import java.lang.reflect.Method;
import java.lang.reflect.Modifier;
import java.net.URL;
import java.net.URLClassLoader;
import java.nio.file.Files;
import java.nio.file.Path;
import java.util.ArrayList;
import java.util.Comparator;
import java.util.List;
import java.util.Map;
import java.util.TreeMap;
import java.util.regex.Matcher;
import java.util.regex.Pattern;
import java.util.stream.Stream;
import javax.tools.ToolProvider;

/** README.md says what is so: its code is compiled and run, and each call answers what stands behind its "//". */
public final class ReadmeTest {
    private static final Pattern BLOCK = Pattern.compile("```java\n(.*?)```", Pattern.DOTALL);
    /** A call, over several lines too, and the answer that the page tells. */
    private static final Pattern TOLD = Pattern.compile(
            "(?m)^((?:x\\.|new )[^;\"]*(?:\"[^\"]*\"[^;\"]*)*);[ ]+// (throws \\w+|true|false|-?\\d+)(?=[:;]|$)[^\n]*$");
    private static final Pattern REMARK = Pattern.compile(";[ ]+// ");

    private final Map<String, String> answersTold = new TreeMap<>();
    private final StringBuilder members = new StringBuilder();
    private final StringBuilder statements = new StringBuilder();
    private int wrong;

    public static void main(String[] args) throws Exception {
        ReadmeTest t = new ReadmeTest();
        String page = Files.readString(Path.of("README.md"));
        t.namesTheWholeFace(page);
        t.read(page);
        t.play();
        System.out.println(t.wrong == 0 ? "README.md tells " + t.answersTold.size() + " answers, and they are so"
                : t.wrong + " things in README.md are not so");
        if (t.wrong != 0) {
            System.exit(1);
        }
    }

    private void check(boolean holds, String what) {
        if (!holds) {
            wrong++;
            System.out.println("README.md: not so: " + what);
        }
    }

    private void namesTheWholeFace(String page) {
        for (Method m : BoilerTaps.class.getDeclaredMethods()) {
            if (Modifier.isPublic(m.getModifiers())) {
                boolean named = page.contains("x." + m.getName() + "(") || page.contains("`" + m.getName() + "`");
                check(named, m.getName() + " is named");
            }
        }
    }

    /** A block is a method of its own, or goes on where the one ahead of it ended. */
    private void read(String page) {
        Matcher block = BLOCK.matcher(page);
        int remarks = 0;
        while (block.find()) {
            String code = block.group(1);
            if (code.startsWith("static ")) {
                members.append(code);
                continue;
            }
            remarks += (int) REMARK.matcher(code).results().count();
            statements.append(asked(code));
        }
        check(remarks == answersTold.size() && remarks > 0, "each of its " + remarks + " remarks tells an answer");
    }

    /** The code, but each call whose answer is told is asked for it. */
    private String asked(String code) {
        StringBuilder b = new StringBuilder();
        Matcher told = TOLD.matcher(code);
        while (told.find()) {
            String place = String.format("%03d %s", answersTold.size(), told.group(1).replaceAll("\\s+", " "));
            answersTold.put(place, told.group(2));
            told.appendReplacement(b, "");
            b.append("try { got.add(String.valueOf(").append(told.group(1)).append(")); }\n")
                    .append("catch (RuntimeException e) { got.add(\"throws \" + e.getClass().getSimpleName()); }");
        }
        return told.appendTail(b).toString();
    }

    private void play() throws Exception {
        Path dir = Files.createTempDirectory("readme");
        try {
            List<?> got = run(dir);
            int i = 0;
            for (Map.Entry<String, String> told : answersTold.entrySet()) {
                String answer = i < got.size() ? String.valueOf(got.get(i)) : "nothing";
                check(told.getValue().equals(answer),
                        told.getKey().substring(4) + " answers " + told.getValue() + "; it answered " + answer);
                i++;
            }
            check(i == got.size(), "there are as many answers as are told");
        } finally {
            remove(dir);
        }
    }

    private List<?> run(Path dir) throws Exception {
        Path source = dir.resolve("ReadmeCode.java");
        Files.writeString(source, "public final class ReadmeCode {\n" + members
                + "public static java.util.List<String> run() {\n"
                + "java.util.List<String> got = new java.util.ArrayList<>();\n" + statements + "return got;\n}\n}\n");
        int failed = ToolProvider.getSystemJavaCompiler().run(null, null, null, "-encoding", "UTF-8", "-d", dir.toString(),
                "-classpath", System.getProperty("java.class.path"), source.toString());
        check(failed == 0, "its code compiles");
        if (failed != 0) {
            return List.of();
        }
        try (URLClassLoader loader = new URLClassLoader(new URL[] {dir.toUri().toURL()})) {
            return (List<?>) loader.loadClass("ReadmeCode").getMethod("run").invoke(null);
        }
    }

    private static void remove(Path dir) throws IOException {
        List<Path> all = new ArrayList<>();
        try (Stream<Path> walk = Files.walk(dir)) {
            walk.sorted(Comparator.reverseOrder()).forEach(all::add);
        }
        for (Path p : all) {
            Files.delete(p);
        }
    }
}
