import java.lang.reflect.InvocationTargetException;
import java.lang.reflect.Method;
import java.lang.reflect.Modifier;
import java.util.ArrayList;
import java.util.Arrays;
import java.util.Comparator;
import java.util.List;
import java.util.Random;

/**
 * LANGUAGE.md, rules 6 and 7: whatever the arguments, in whatever state, a call throws nothing but what its face tells,
 * and what it throws is thrown by the class's own throw.
 */
public final class WildTest {
    private static final int[] WILD = {Integer.MIN_VALUE, Integer.MIN_VALUE + 1, -65536, -100, -48, -2, -1, 0, 1, 2, 3,
        4, 5, 8, 11, 12, 13, 16, 24, 47, 48, 49, 60, 61, 63, 64, 99, 101, 256, 700, 701, 9999, 65535, 65536,
        Integer.MAX_VALUE - 1, Integer.MAX_VALUE};
    private static final int CALLS = 512;
    private static final int RUNS = 60;
    private static final String[] MACHINES = {"", "guest 1;page 0 0 0 0 0 0;frames 1;", "frames 1;guest 1;",
        "frames 48;share 2;rate 16 16;zero;smart;guest 12;guest 12 1;guest 12 2;guest 12;advise 0 0 11;advise 1 0 11;"
            + "advise 2 0 11;advise 3 0 11;",
        "frames 5;share 2;rate 1 16;smart;guest 4;guest 4;page 0 0 1 1 1 1;page 0 1 1 1 1 1;page 1 0 1 1 1 1;"
            + "page 1 1 2 1 1 1;page 1 2 2 1 1 1;advise 0 0 3;advise 1 0 3;"};
    private static final String[] ORDERS = {"", ";", "write", "write 0 0 0", "write 0 0 0 1;copy 0 0 0 0;scan 9;tick 2;",
        "drop 0 0;drop 0 0;", "tick 20;".repeat(87), "write 3 11 3 15;drop 3 11;", "\u00ff\u0000;", "scan 99999999999;"};

    private static int wrong = 0;

    public static void main(String[] args) {
        Method[] face = Arrays.stream(GuestPages.class.getDeclaredMethods())
                .filter(method -> Modifier.isPublic(method.getModifiers())).toArray(Method[]::new);
        Arrays.sort(face, Comparator.comparing(Method::getName));
        for (int run = 0; run < RUNS; run++) {
            playAll(face, new Random(run), MACHINES[run % MACHINES.length]);
        }
        System.out.println(wrong == 0 ? "nothing else is thrown" : wrong + " calls throw what they may not");
        System.exit(wrong == 0 ? 0 : 1);
    }

    private static void playAll(Method[] face, Random random, String machine) {
        GuestPages x = new GuestPages();
        Check.machine(x, machine);
        for (int i = 40; i < CALLS; i++) {
            if (random.nextInt(24) == 0 && i < CALLS - 40) {
                String orders = ORDERS[random.nextInt(ORDERS.length)];
                Check.orders(x, orders);
                i += orders.length() / 20 + 1;
            } else if (random.nextInt(4) == 0) {
                x.scan(1 + random.nextInt(20));
            } else {
                call(x, face[random.nextInt(face.length)], random);
            }
        }
    }

    /** Half of the arguments are small, so that calls come as far as to do something. */
    private static Object argument(Class<?> type, Random random) {
        if (type == boolean.class) {
            return random.nextBoolean();
        }
        return random.nextBoolean() ? random.nextInt(4) : WILD[random.nextInt(WILD.length)];
    }

    private static void call(GuestPages x, Method method, Random random) {
        List<Object> args = new ArrayList<>();
        for (Class<?> type : method.getParameterTypes()) {
            args.add(argument(type, random));
        }
        try {
            method.invoke(x, args.toArray());
        } catch (InvocationTargetException e) {
            Throwable thrown = e.getCause();
            boolean told = Arrays.asList(method.getExceptionTypes()).contains(thrown.getClass());
            StackTraceElement[] trace = thrown.getStackTrace();
            if (!told || trace.length == 0 || !trace[0].getClassName().startsWith("GuestPages")) {
                wrong++;
                System.out.println(method.getName() + args + " throws " + thrown);
            }
        } catch (IllegalAccessException e) {
            throw new AssertionError(e);
        }
    }
}
