import java.lang.reflect.Method;
import java.lang.reflect.Modifier;
import java.util.ArrayList;
import java.util.Arrays;
import java.util.Collections;
import java.util.Comparator;
import java.util.List;
import java.util.Random;
import java.util.Set;

/** Runs of drawn calls on the class and on the oracle: all answers must be the same. */
public final class OracleTest {
    private static final int RUNS = 500;
    private static final int CALLS = 200;
    private static final int GAMES = 300;

    private final Check check = new Check("OracleTest");
    private final Random random;
    private final List<Method> asked = new ArrayList<>();
    private final List<Method> models = new ArrayList<>();
    private SpentTurns subject;
    private Oracle oracle;
    private String history;
    private int crossings = 4;
    private static final Set<String> TURN_FIRST = Set.of("uses", "left", "take", "give", "loss", "spent", "demand", "law");
    private int lastSlot;

    private OracleTest(long seed) throws ReflectiveOperationException {
        random = new Random(seed);
        Method[] all = SpentTurns.class.getDeclaredMethods();
        for (Method method : all) {
            if (!Modifier.isPublic(method.getModifiers())) continue;
            if (method.getName().equals("feed") || method.getName().equals("town")) continue;
            asked.add(method);
        }
        asked.sort(Comparator.comparing(Method::getName));
        for (Method method : asked) models.add(Oracle.class.getMethod(method.getName(), method.getParameterTypes()));
    }

    public static void main(String[] args) throws ReflectiveOperationException {
        OracleTest test = new OracleTest(20261118L);
        for (int run = 0; run < RUNS; run++) test.run(run);
        for (int run = 0; run < GAMES; run++) test.play(run);
        test.check.close();
    }

    private void run(int number) throws ReflectiveOperationException {
        subject = new SpentTurns();
        oracle = new Oracle();
        history = "run " + number;
        if (random.nextInt(20) > 0) tell(randomTown());
        for (int i = 0; i < CALLS; i++) {
            int kind = random.nextInt(60);
            if (kind == 0 && random.nextInt(3) == 0) {
                tell(random.nextBoolean() ? randomTown() : spoilt(randomTown()));
            } else if (kind < 4) {
                writeRow();
            } else {
                askAny();
            }
        }
    }

    /** Games by few uses here and there, from each arc. */
    private void play(int number) {
        subject = new SpentTurns();
        oracle = new Oracle();
        history = "game " + number;
        int n = 3 + random.nextInt(3);
        StringBuilder text = new StringBuilder("town crossings " + n + " uses 0 half 0;");
        addStreets(text, n, n + random.nextInt(2));
        tell(text.toString());
        for (int i = 0; i < 12; i++) {
            int[] turn = anyTurn();
            compare("give" + Arrays.toString(turn), subject.give(turn[0], turn[1], turn[2]), oracle.give(turn[0], turn[1], turn[2]));
            compare("round()", subject.round(), oracle.round());
            compare("uneven()", subject.uneven(), oracle.uneven());
        }
        for (int x = 0; x < n; x++) {
            for (int y = 0; y < n; y++) {
                compare("wins(" + x + ", " + y + ")", subject.wins(x, y), oracle.wins(x, y));
                compare("turn(" + x + ", " + y + ")", subject.turn(x, y), oracle.turn(x, y));
            }
        }
    }

    private void compare(String call, int got, int want) {
        history += "\n  " + call + " -> " + want;
        check.due(got == want ? call : history, got, want);
    }

    // ---- texts ----

    private void tell(String text) {
        int feeds = (text.length() + 19) / 20;
        for (int i = 0; i < feeds; i++) {
            int[] v = new int[5];
            for (int k = 0; k < 5; k++) v[k] = Check.four(text, 20 * i + 4 * k);
            compare("feed(" + i + " of " + text.replace('\n', '_') + ")", subject.feed(v[0], v[1], v[2], v[3], v[4]),
                    oracle.feed(v[0], v[1], v[2], v[3], v[4]));
        }
        compare("end", subject.end(text.length()), oracle.end(text.length()));
        compare("town()", subject.town(), oracle.town());
        for (int what = -1; what < 3; what++) compare("fault(" + what + ")", subject.fault(what), oracle.fault(what));
        crossings = Math.max(2, oracle.count(0));
    }

    private String randomTown() {
        int n = 2 + random.nextInt(4);
        int uses = random.nextInt(5) / 2;
        StringBuilder text = new StringBuilder("town crossings " + n + " uses " + uses + " half " + random.nextInt(3) + ";");
        List<int[]> streets = addStreets(text, n, random.nextInt(3) == 0 ? random.nextInt(3) : n - 1 + random.nextInt(3));
        if (!streets.isEmpty()) addTurns(text, streets);
        int errands = random.nextInt(5);
        for (int i = 0; i < errands; i++) {
            int x = random.nextInt(n);
            int y = (x + 1 + random.nextInt(n - 1)) % n;
            text.append("errand ").append(x).append(' ').append(y).append(" at ").append(random.nextInt(24)).append(blank()).append(";");
        }
        return text.toString();
    }

    /** Each street hangs together with those ahead of it. */
    private List<int[]> addStreets(StringBuilder text, int n, int many) {
        List<int[]> streets = new ArrayList<>();
        for (int i = 0; i < Math.min(many, 6); i++) {
            int x = i < n - 1 ? i + 1 : random.nextInt(n);
            int y = i < n - 1 ? random.nextInt(i + 1) : (x + 1 + random.nextInt(n - 1)) % n;
            streets.add(new int[] {x, y});
            text.append("street ").append(x).append(' ').append(y).append(blank()).append(1 + random.nextInt(3)).append(";");
        }
        return streets;
    }

    private void addTurns(StringBuilder text, List<int[]> streets) {
        int many = random.nextInt(6);
        for (int i = 0; i < many; i++) {
            int[] a = streets.get(random.nextInt(streets.size()));
            int[] b = streets.get(random.nextInt(streets.size()));
            int x = a[0];
            int y = a[1];
            if (b[0] != y && b[1] != y) b = a;
            int z = b[0] == y ? b[1] : b[0];
            text.append("turn ").append(x).append(' ').append(y).append(' ').append(z).append(" uses ").append(random.nextInt(4)).append(";");
        }
    }

    private String blank() {
        return random.nextInt(5) == 0 ? " \n " : " ";
    }

    private String spoilt(String text) {
        StringBuilder spoilt = new StringBuilder(text);
        int at = random.nextInt(text.length());
        String signs = "0123456789;az T#\n\0\u00e9-";
        switch (random.nextInt(6)) {
            case 0 -> spoilt.setLength(at);
            case 1 -> spoilt.deleteCharAt(at);
            case 2 -> spoilt.insert(at, signs.charAt(random.nextInt(signs.length())));
            case 3 -> spoilt.append("errand 0 1 at 3;".repeat(3 + random.nextInt(4)));
            case 4 -> spoilt.insert(at, text.substring(random.nextInt(text.length())));
            default -> spoilt.setCharAt(at, signs.charAt(random.nextInt(signs.length())));
        }
        if (spoilt.length() > 1500) spoilt.setLength(1500);
        return spoilt.toString();
    }

    // ---- slots ----

    private void writeRow() {
        int slot = random.nextInt(4);
        int width = random.nextInt(2);
        boolean isSeen = random.nextBoolean();
        List<Integer> stops = new ArrayList<>(List.of(random.nextInt(crossings)));
        int many = random.nextInt(6);
        for (int i = 0; i < many; i++) {
            stops.add(random.nextInt(30) == 0 ? random.nextInt(crossings) : anyBeside(stops.get(i)));
        }
        List<Integer> numbers = new ArrayList<>();
        if (isSeen) for (int i = 2; i < stops.size(); i++) numbers.addAll(stops.subList(i - 2, i + 1));
        else numbers = stops;
        if (isSeen && random.nextInt(3) == 0) numbers = inAnotherOrder(numbers);
        compare("row(" + slot + ", " + width + ", " + numbers.size() + ")", subject.row(slot, width, numbers.size()),
                oracle.row(slot, width, numbers.size()));
        for (int i = 0; i < numbers.size(); i++) {
            long v = numbers.get(i) + (random.nextInt(3) == 0 ? 65536L * (random.nextInt(7) - 3) : 0);
            compare("write(" + slot + ", " + i + ", " + v + ")", subject.write(slot, i, v), oracle.write(slot, i, v));
        }
        lastSlot = slot;
        int x = isSeen ? stops.get(0) : random.nextInt(crossings);
        compare("fits(" + slot + ", " + x + ")", subject.fits(slot, x), oracle.fits(slot, x));
        compare("gone(" + slot + ", " + x + ")", subject.gone(slot, x), oracle.gone(slot, x));
        compare("march(" + slot + ")", subject.march(slot), oracle.march(slot));
        compare("length(" + slot + ")", subject.length(slot), oracle.length(slot));
    }

    private List<Integer> inAnotherOrder(List<Integer> numbers) {
        List<List<Integer>> turns = new ArrayList<>();
        for (int i = 0; i + 2 < numbers.size(); i += 3) turns.add(numbers.subList(i, i + 3));
        Collections.shuffle(turns, random);
        List<Integer> shuffled = new ArrayList<>();
        for (List<Integer> turn : turns) shuffled.addAll(turn);
        return shuffled;
    }

    // ---- any call ----

    private void askAny() throws ReflectiveOperationException {
        int at = random.nextInt(asked.size());
        Method method = asked.get(at);
        if (method.getName().equals("anew") && random.nextInt(3) > 0) return;
        if (method.getName().equals("row") && random.nextInt(2) > 0) return;
        Class<?>[] types = method.getParameterTypes();
        Object[] args = new Object[types.length];
        StringBuilder call = new StringBuilder(method.getName()).append('(');
        int[] turn = TURN_FIRST.contains(method.getName()) && random.nextInt(8) > 0 ? anyTurn() : null;
        for (int i = 0; i < types.length; i++) {
            int v = turn != null && i < 3 ? turn[i] : argument(method.getName(), i);
            args[i] = types[i] == long.class ? (Object) (long) v : (Object) v;
            call.append(i > 0 ? ", " : "").append(v);
        }
        int got = (int) method.invoke(subject, args);
        int want = (int) models.get(at).invoke(oracle, args);
        compare(call.append(')').toString(), got, want);
    }

    private int[] anyTurn() {
        int y = random.nextInt(crossings);
        return new int[] {anyBeside(y), y, anyBeside(y)};
    }

    private int anyBeside(int x) {
        List<Integer> options = new ArrayList<>();
        int bits = Math.max(0, oracle.beside(x));
        for (int z = 0; z < 8; z++) if ((bits >> z & 1) == 1) options.add(z);
        return options.isEmpty() ? random.nextInt(crossings) : options.get(random.nextInt(options.size()));
    }

    private int argument(String name, int i) {
        int odd = random.nextInt(60);
        if (odd == 0) return -1;
        if (odd == 1) return random.nextInt();
        if (random.nextInt(3) == 0 && name.equals("noon")) return (1 << Math.max(0, oracle.count(5))) - 1;
        if (name.equals("drawn") || name.equals("strays")) {
            if (i == 0) return random.nextInt(2000000001);
            if (name.equals("drawn") ? i == 2 : i == 1 || i == 3) return random.nextInt(22);
        }
        if ((name.equals("fits") || name.equals("gone") || name.equals("march") || name.equals("length")) && i == 0) return lastSlot;
        if (name.equals("write") && i == 2) return random.nextInt(600);
        if (name.equals("build") && i == 2 || name.equals("law") && i == 3) return random.nextInt(4);
        if (name.equals("send") && i == 3) return random.nextInt(25);
        if (name.equals("count")) return random.nextInt(12);
        if (name.equals("end")) return random.nextInt(30);
        if (name.equals("noon")) return random.nextInt(16);
        boolean isWalk = name.equals("walks") || name.equals("sure");
        if (isWalk && i == 2 || (name.equals("ends") || name.equals("wide")) && i == 1) return random.nextInt(7);
        return random.nextInt(20) == 0 ? random.nextInt(10) : random.nextInt(crossings);
    }
}
