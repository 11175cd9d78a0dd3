import java.lang.reflect.InvocationTargetException;
import java.lang.reflect.Method;
import java.lang.reflect.Modifier;
import java.nio.charset.StandardCharsets;
import java.util.ArrayList;
import java.util.Arrays;
import java.util.HashMap;
import java.util.List;
import java.util.Map;

/**
 * Plays runs of calls that are written as rows: name, arguments, "=", the answer that is due. A text in quotes
 * is fed to the TAPE, and its length is the argument. "new" makes a new object. Behind "throws." stands the
 * name of the exception that is due, or IAE, IOOBE, NSEE, ISE for it. "|" parts calls on one row. "*" as an
 * answer: it is not looked at; "@name" keeps an answer, and "@name" or "@name+1" as argument or answer uses it.
 */
final class Script {
    private static final int MOST_CALLS = 512;
    private static final Map<String, String> SHORT = Map.of(
            "IAE", "throws.IllegalArgumentException", "IOOBE", "throws.IndexOutOfBoundsException",
            "NSEE", "throws.NoSuchElementException", "ISE", "throws.IllegalStateException");
    private static final Map<String, Method> FACE = face();

    private final String title;
    private final Map<String, Integer> kept = new HashMap<>();
    private BoilerTaps x = new BoilerTaps();
    private int wrong;
    private int calls;

    Script(String title) {
        this.title = title;
    }

    private static Map<String, Method> face() {
        Map<String, Method> face = new HashMap<>();
        for (Method m : BoilerTaps.class.getDeclaredMethods()) {
            if (Modifier.isPublic(m.getModifiers())) {
                face.put(m.getName(), m);
            }
        }
        return face;
    }

    /** How many answers were not as due. */
    static int play(String title, String rows) {
        Script s = new Script(title);
        s.go(rows);
        return s.wrong;
    }

    /** How many answers were not as due till now. */
    int wrong() {
        return wrong;
    }

    void go(String rows) {
        for (String row : calls(rows)) {
            row(row);
        }
    }

    /** What each call of rows without "=" answers, one after another. */
    List<String> answers(String rows) {
        List<String> answers = new ArrayList<>();
        for (String row : calls(rows)) {
            answers.add(row + " = " + answer(row));
        }
        return answers;
    }

    private static List<String> calls(String rows) {
        List<String> calls = new ArrayList<>();
        for (String line : rows.split("\n")) {
            for (String row : line.split("\\|")) {
                if (!row.isBlank() && !row.strip().startsWith("//")) {
                    calls.add(row.strip());
                }
            }
        }
        return calls;
    }

    private void row(String row) {
        if (row.equals("new")) {
            x = new BoilerTaps();
            calls = 0;
            return;
        }
        int equals = row.lastIndexOf('=');
        String call = row.substring(0, equals).strip();
        String due = row.substring(equals + 1).strip();
        String got = answer(call);
        if (due.startsWith("@") && !kept.containsKey(due.substring(1)) && !due.contains("+") && !due.contains("-")) {
            kept.put(due.substring(1), Integer.parseInt(got));
            return;
        }
        boolean isNumber = due.startsWith("@") || due.matches("-?\\d+");
        String want = isNumber ? String.valueOf(value(due)) : SHORT.getOrDefault(due, due);
        if (!want.equals("*") && !want.equals(got)) {
            wrong++;
            System.out.println(title + ": " + call + " answered " + got + ", due is " + want);
        }
    }

    private String answer(String call) {
        int quote = call.indexOf('"');
        if (quote >= 0) {
            String text = call.substring(quote + 1, call.lastIndexOf('"'));
            calls += feed(x, text);
            return invoke(call.substring(0, quote).strip(), String.valueOf(text.length()));
        }
        String[] parts = call.split("\\s+");
        return invoke(parts[0], Arrays.copyOfRange(parts, 1, parts.length));
    }

    /** Puts a text on the TAPE, with bytes of 0 up to the next twenty: how many calls that took. */
    static int feed(BoilerTaps x, String text) {
        byte[] bytes = text.getBytes(StandardCharsets.ISO_8859_1);
        byte[] whole = Arrays.copyOf(bytes, (bytes.length + 19) / 20 * 20);
        for (int i = 0; i < whole.length; i += 20) {
            int[] five = new int[5];
            for (int j = 0; j < 20; j++) {
                five[j / 4] = five[j / 4] << 8 | whole[i + j] & 255;
            }
            x.feed(five[0], five[1], five[2], five[3], five[4]);
        }
        return whole.length / 20;
    }

    private int value(String word) {
        if (!word.startsWith("@")) {
            return Integer.parseInt(word);
        }
        int plus = Math.max(word.indexOf('+'), word.indexOf('-'));
        return plus < 0 ? kept.get(word.substring(1))
                : kept.get(word.substring(1, plus)) + Integer.parseInt(word.substring(plus));
    }

    private String invoke(String name, String... words) {
        calls++;
        if (calls > MOST_CALLS) {
            throw new IllegalStateException(title + ": more calls than an object is promised for");
        }
        Method m = FACE.get(name);
        if (m == null || m.getParameterCount() != words.length) {
            throw new IllegalStateException(title + ": no such call, " + name + " " + Arrays.toString(words));
        }
        Object[] args = new Object[words.length];
        for (int i = 0; i < args.length; i++) {
            args[i] = m.getParameterTypes()[i] == boolean.class
                    ? (Object) words[i].equals("true") : (Object) value(words[i]);
        }
        try {
            return String.valueOf(m.invoke(x, args));
        } catch (InvocationTargetException e) {
            return "throws." + e.getCause().getClass().getSimpleName();
        } catch (IllegalAccessException e) {
            throw new IllegalStateException(e);
        }
    }
}
