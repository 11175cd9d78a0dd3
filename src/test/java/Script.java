import java.lang.reflect.InvocationTargetException;
import java.lang.reflect.Method;
import java.lang.reflect.Modifier;
import java.nio.charset.StandardCharsets;
import java.util.Arrays;

/**
 * Plays runs of calls that are written as rows: name, arguments, "=", the answer that is due. A text in quotes
 * is fed to the TAPE, and its length is the argument. "new" makes a new object. Behind "throws." stands the
 * name of the exception that is due. "|" parts calls on one row. "*" as an answer: it is not looked at; "@name"
 * keeps an answer, and "@name" or "@name+1" as argument or answer uses it.
 */
final class Script {
    private final String title;
    private final java.util.Map<String, Integer> kept = new java.util.HashMap<>();
    private BoilerTaps x = new BoilerTaps();
    private int wrong;
    private int calls;

    Script(String title) {
        this.title = title;
    }

    /** How many answers were not as due. */
    static int play(String title, String rows) {
        Script s = new Script(title);
        for (String line : rows.split("\n")) {
            for (String row : line.split("\\|")) {
                if (!row.isBlank() && !row.strip().startsWith("//")) {
                    s.row(row.strip());
                }
            }
        }
        return s.wrong;
    }

    private void row(String row) {
        if (row.equals("new")) {
            x = new BoilerTaps();
            calls = 0;
            return;
        }
        int equals = row.lastIndexOf('=');
        String call = row.substring(0, equals).strip();
        String due = row.substring(equals + 1).strip();
        String got = answer(call);
        if (due.startsWith("@") && !kept.containsKey(due.substring(1)) && !due.contains("+") && !due.contains("-")) {
            kept.put(due.substring(1), Integer.parseInt(got));
            return;
        }
        String want = due.startsWith("@") ? String.valueOf(value(due)) : due;
        if (!want.equals("*") && !want.equals(got)) {
            wrong++;
            System.out.println(title + ": " + call + " answered " + got + ", due is " + want);
        }
    }

    private String answer(String call) {
        int quote = call.indexOf('"');
        if (quote >= 0) {
            String text = call.substring(quote + 1, call.lastIndexOf('"'));
            feed(x, text);
            return invoke(call.substring(0, quote).strip(), String.valueOf(text.length()));
        }
        String[] parts = call.split("\\s+");
        return invoke(parts[0], Arrays.copyOfRange(parts, 1, parts.length));
    }

    static void feed(BoilerTaps x, String text) {
        byte[] bytes = text.getBytes(StandardCharsets.ISO_8859_1);
        byte[] whole = Arrays.copyOf(bytes, (bytes.length + 19) / 20 * 20);
        for (int i = 0; i < whole.length; i += 20) {
            int[] five = new int[5];
            for (int j = 0; j < 20; j++) {
                five[j / 4] = five[j / 4] << 8 | whole[i + j] & 255;
            }
            x.feed(five[0], five[1], five[2], five[3], five[4]);
        }
    }

    private int value(String word) {
        if (!word.startsWith("@")) {
            return Integer.parseInt(word);
        }
        int plus = Math.max(word.indexOf('+'), word.indexOf('-'));
        return plus < 0 ? kept.get(word.substring(1))
                : kept.get(word.substring(1, plus)) + Integer.parseInt(word.substring(plus));
    }

    private String invoke(String name, String... words) {
        calls++;
        if (calls > 512) {
            throw new IllegalStateException(title + ": more calls than an object is promised for");
        }
        for (Method m : BoilerTaps.class.getDeclaredMethods()) {
            if (!m.getName().equals(name) || !Modifier.isPublic(m.getModifiers())) {
                continue;
            }
            Object[] args = new Object[words.length];
            for (int i = 0; i < args.length; i++) {
                args[i] = m.getParameterTypes()[i] == boolean.class
                        ? (Object) words[i].equals("true") : (Object) value(words[i]);
            }
            try {
                return String.valueOf(m.invoke(x, args));
            } catch (InvocationTargetException e) {
                return "throws." + e.getCause().getClass().getSimpleName();
            } catch (IllegalAccessException e) {
                throw new IllegalStateException(e);
            }
        }
        throw new IllegalStateException("no method " + name);
    }
}
