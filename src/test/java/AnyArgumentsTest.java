import java.lang.management.ManagementFactory;
import java.lang.reflect.InvocationTargetException;
import java.lang.reflect.Method;
import java.lang.reflect.Modifier;
import java.util.ArrayList;
import java.util.Arrays;
import java.util.List;
import java.util.Random;

/**
 * Any numbers at all in any state: nothing comes out but what the face names, never what the machine throws
 * (which is of another class, or thrown elsewhere). And a run of dear calls makes next to no objects.
 */
public final class AnyArgumentsTest {
    private static final int[] NUMBERS = {0, 1, -1, 2, 3, 4, 7, 8, 9, 10, 15, 16, 17, 19, 20, 23, 24, 30, 39, 40, 46,
        47, 48, 49, 59, 60, 61, 100, 180, 199, 200, 201, 240, 241, 400, 480, 500, 501, 600, 900, 901, 999, 1000, 4000,
        -4000, 4001, 9999, 10000, -9999, -10000, 99999, 100000, 1000000, 1000001, Integer.MAX_VALUE - 1,
        Integer.MAX_VALUE, Integer.MIN_VALUE};
    private static final String[] HOUSES = {
        "room 10 200;radiator 0 0 10;snap 0 210;",
        "room 1 0;room 2 400;wall 0 1 99;radiator 1 3 99;radiator 0 0 1;slow 0 5;draught 1 300;window 0 99;outer 1 99;",
        "room 5 5;",
        "room 1 400;".repeat(8) + "radiator 7 3 99;".repeat(8) + "draught 7 400;slow 6 0;pump 999;boiler 99999 900;",
    };
    private static int wrong;

    public static void main(String[] args) {
        Random random = new Random(5);
        List<Method> face = new ArrayList<>();
        for (Method m : BoilerTaps.class.getDeclaredMethods()) {
            if (Modifier.isPublic(m.getModifiers())) {
                face.add(m);
            }
        }
        face.sort((a, b) -> a.getName().compareTo(b.getName()));
        for (int run = 0; run < 1000; run++) {
            anyRun(random, face);
        }
        dearCallsMakeNothing();
        System.out.println(wrong == 0 ? "nothing else was thrown" : wrong + " calls went wrong");
        if (wrong != 0) {
            System.exit(1);
        }
    }

    private static void tell(BoilerTaps x, String text) {
        x.house(0);
        Script.feed(x, text);
        x.house(text.length());
    }

    private static void anyRun(Random random, List<Method> face) {
        BoilerTaps x = new BoilerTaps();
        for (int i = 0; i < 300; i++) {
            if (random.nextInt(40) == 0) {
                tell(x, HOUSES[random.nextInt(HOUSES.length)]);
            }
            Method m = face.get(random.nextInt(face.size()));
            boolean isDear = List.of("cause", "balanced", "turning").contains(m.getName());
            if (isDear && random.nextInt(10) != 0) {
                continue;
            }
            Object[] args = new Object[m.getParameterCount()];
            for (int k = 0; k < args.length; k++) {
                int reach = random.nextInt(3) == 0 ? NUMBERS.length : 8;
                Object number = random.nextInt(12) == 0 ? random.nextInt() : NUMBERS[random.nextInt(reach)];
                args[k] = m.getParameterTypes()[k] == boolean.class ? (Object) random.nextBoolean() : number;
            }
            call(x, m, args);
        }
    }

    private static void call(BoilerTaps x, Method m, Object[] args) {
        try {
            m.invoke(x, args);
        } catch (InvocationTargetException e) {
            Throwable t = e.getCause();
            boolean named = Arrays.asList(m.getExceptionTypes()).contains(t.getClass());
            if (!named || !t.getStackTrace()[0].getClassName().startsWith("BoilerTaps")) {
                wrong++;
                System.out.println(m.getName() + Arrays.toString(args) + " threw " + t);
            }
        } catch (IllegalAccessException e) {
            throw new IllegalStateException(e);
        }
    }

    /** All calls of a run live in one room: only MARKS may take more of it than the constructor did. */
    private static void dearCallsMakeNothing() {
        BoilerTaps x = new BoilerTaps();
        tell(x, HOUSES[3]);
        x.log(200, 0, -5000);
        someDearCalls(x);
        com.sun.management.ThreadMXBean threads =
                (com.sun.management.ThreadMXBean) ManagementFactory.getThreadMXBean();
        long self = Thread.currentThread().getId();
        long before = threads.getThreadAllocatedBytes(self);
        for (int i = 0; i < 20; i++) {
            someDearCalls(x);
        }
        long made = threads.getThreadAllocatedBytes(self) - before;
        if (made > 20_000) {
            wrong++;
            System.out.println("20 rounds of dear calls made " + made + " bytes of objects");
        }
    }

    private static void someDearCalls(BoilerTaps x) {
        x.cause(0, 0);
        x.turning(0, 9999);
        x.wake(0, 5, 9999);
        x.wish(7, 100, 240, -1);
        x.mark();
        x.go(999);
        x.back();
        x.pays(0, 5000);
        x.judge();
    }
}
