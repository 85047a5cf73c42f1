import java.lang.reflect.InvocationTargetException;
import java.lang.reflect.Method;
import java.lang.reflect.Modifier;
import java.util.Arrays;
import java.util.Comparator;
import java.util.Set;

/** Any arguments in any state: no call throws, and those that only look leave all as it is. */
public final class ExtremesTest {
    private static final Check CHECK = new Check("ExtremesTest");
    private static final Set<String> CHANGES = Set.of("feed", "end", "town", "take", "give", "undo", "anew", "build", "law", "send",
            "keep", "back", "row", "write", "paste");
    private static final int[] MANY = {Integer.MIN_VALUE, -2, -1, 0, 1, 2, 3, 4, 5, 6, 7, 8, 9, 10, 20, 21, 24, 60, 61, 63, 64, 512,
        1600, 2000000000, 2000000001, Integer.MAX_VALUE};
    private static final int[] FEW = {Integer.MIN_VALUE, -1, 0, 1, 2, 3, 4, 7, 8, 9, 60, 61, Integer.MAX_VALUE};
    private static final int[] FEWEST = {Integer.MIN_VALUE, -1, 0, 1, 3, 8, 61, Integer.MAX_VALUE};
    private static int answers;

    public static void main(String[] args) throws IllegalAccessException {
        Method[] face = SpentTurns.class.getMethods();
        Arrays.sort(face, Comparator.comparing(Method::getName));
        for (Method method : face) {
            if (method.getDeclaringClass() == SpentTurns.class && !Modifier.isStatic(method.getModifiers())) {
                for (int state = 0; state < STATES.length; state++) askAll(method, state);
            }
        }
        CHECK.due("some were asked: " + answers, answers > 100000 ? 1 : 0, 1);
        CHECK.close();
    }

    private static final String[] STATES = {"no town", "two crossings", "eight crossings", "sixty taken, rows", "no street"};

    private static SpentTurns inState(int state) {
        switch (state) {
            case 1: return Check.town("town crossings 2 uses 0 half 3;street 0 1 9;errand 1 0 at 23;");
            case 2: return Check.town(wide());
            case 3: return worn();
            case 4: return Check.town("town crossings 8 uses 3 half 3;");
            default: return new SpentTurns();
        }
    }

    private static String wide() {
        StringBuilder text = new StringBuilder("town crossings 8 uses 1 half 1;");
        for (int y = 1; y < 8; y++) text.append("street 0 " + y + " 5;");
        for (int y = 1; y < 7; y++) text.append("street " + y + " 7 1;");
        return text.append("street 2 3 5;").append("errand 1 2 at 3;".repeat(6)).toString();
    }

    private static SpentTurns worn() {
        SpentTurns s = Check.town("town crossings 4 uses 1 half 1;street 0 1 1;street 1 2 1;street 2 3 1;errand 0 3 at 0;errand 3 0 at 0;");
        for (int i = 0; i < 30; i++) {
            s.give(0, 1, 2);
            s.take(0, 1, 2);
        }
        s.keep(0);
        s.keep(2);
        Check.row(s, 0, 0, 0, 1, 2);
        Check.row(s, 1, 3, Long.MIN_VALUE, -1, Long.MAX_VALUE, 0);
        s.row(2, 2, 0);
        s.row(3, 1, 60);
        for (int i = 0; i < 80; i++) s.feed(-1, 0x74, 0, 0, 0x3b);
        return s;
    }

    private static void askAll(Method method, int state) throws IllegalAccessException {
        int size = method.getParameterCount();
        int[] values = size <= 2 ? MANY : size <= 3 ? FEW : FEWEST;
        int rows = 1;
        for (int i = 0; i < size; i++) rows *= values.length;
        boolean changes = CHANGES.contains(method.getName());
        SpentTurns s = inState(state);
        String ahead = Look.at(s);
        for (int row = 0; row < rows; row++) {
            if (changes && row % 100 == 0) s = inState(state);
            ask(method, s, values, row, STATES[state]);
        }
        if (!changes) CHECK.due(method.getName() + " leaves all as it is, " + STATES[state], ahead.equals(Look.at(s)) ? 1 : 0, 1);
    }

    private static void ask(Method method, SpentTurns s, int[] values, int row, String state) throws IllegalAccessException {
        Class<?>[] types = method.getParameterTypes();
        Object[] arguments = new Object[types.length];
        int rest = row;
        for (int i = 0; i < types.length; i++) {
            int value = values[rest % values.length];
            rest /= values.length;
            arguments[i] = types[i] == long.class ? (Object) (value * 4294967296L + value) : (Object) value;
        }
        try {
            method.invoke(s, arguments);
            answers++;
        } catch (InvocationTargetException e) {
            CHECK.due(method.getName() + Arrays.toString(arguments) + " of " + state + " threw " + e.getCause(), 1, 0);
        }
    }
}
