import java.lang.reflect.InvocationTargetException;
import java.lang.reflect.Method;
import java.util.Arrays;
import java.util.Comparator;
import java.util.function.IntSupplier;

/** What all tests share: compares answers, feeds texts, and ends with the exit code that is due. */
final class Check {
    private static final String TEST = "p[0-9][0-9]_.*";

    private final String name;
    private String test = "";
    private int wrong;
    private int asked;

    Check(String name) {
        this.name = name;
    }

    void due(String call, long got, long want) {
        asked++;
        if (got != want) {
            fail(call + " answered " + got + ", due is " + want);
        }
    }

    /** A call that is refused, or that only looks: it answers so, and all is as ahead of it. */
    void stays(SpentTurns s, String call, IntSupplier asks, long want) {
        String ahead = Look.at(s);
        due(call, asks.getAsInt(), want);
        if (!ahead.equals(Look.at(s))) {
            fail(call + " changed something");
        }
    }

    private void fail(String what) {
        wrong++;
        System.out.println(name + test + ": " + what);
    }

    void close() {
        System.out.println(name + ": " + asked + " answers, " + wrong + " not as due");
        if (wrong != 0 || asked == 0) {
            System.exit(1);
        }
    }

    /** Whether a method is a test of its own: p, the promise's number, what is asked. */
    static boolean isTest(Method method) {
        return method.getName().matches(TEST) && method.getParameterCount() == 0;
    }

    /** Runs each test of a class by its name; one that asks nothing is wrong. */
    void all(Class<?> tests) {
        Method[] methods = tests.getDeclaredMethods();
        Arrays.sort(methods, Comparator.comparing(Method::getName));
        for (Method method : methods) {
            if (isTest(method)) {
                run(method);
            }
        }
        test = "";
    }

    private void run(Method method) {
        test = " " + method.getName();
        int before = asked;
        try {
            method.invoke(null);
        } catch (InvocationTargetException e) {
            fail("threw " + e.getCause());
        } catch (IllegalAccessException e) {
            fail("can't be run: " + e);
        }
        if (asked == before) {
            fail("asked nothing");
        }
    }

    /** Puts a text behind the tape, without the blanks that fill its last feed; the tape must be empty. */
    static void tape(SpentTurns s, String text) {
        for (int i = 0; i < text.length(); i += 20) {
            s.feed(four(text, i), four(text, i + 4), four(text, i + 8), four(text, i + 12), four(text, i + 16));
        }
        s.end(text.length());
    }

    static int four(String text, int at) {
        int number = 0;
        for (int i = at; i < at + 4; i++) {
            number = number << 8 | (i < text.length() ? text.charAt(i) : ' ') & 255;
        }
        return number;
    }

    static SpentTurns town(String text) {
        SpentTurns s = new SpentTurns();
        tape(s, text);
        s.town();
        return s;
    }

    /** Puts a row of numbers into a slot. */
    static void row(SpentTurns s, int slot, int width, long... numbers) {
        s.row(slot, width, numbers.length);
        for (int i = 0; i < numbers.length; i++) {
            s.write(slot, i, numbers[i]);
        }
    }
}
