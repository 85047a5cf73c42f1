import java.util.Random;

/** Towns of as many crossings, streets and errands as there can be, against the oracle. */
public final class FullTownTest {
    private static final Check CHECK = new Check("FullTownTest");
    private static final int TOWNS = 12;

    private final Random random;
    private final SpentTurns subject = new SpentTurns();
    private final Oracle oracle = new Oracle();
    private final String name;
    private int crossings;

    private FullTownTest(int number) {
        random = new Random(number);
        name = "town " + number + ": ";
    }

    public static void main(String[] args) {
        for (int i = 0; i < TOWNS; i++) new FullTownTest(i).run(i);
        CHECK.close();
    }

    private void run(int number) {
        tell(text());
        takeSome();
        for (int x = 0; x < crossings; x++)
            for (int y = 0; y < crossings; y++) ways(x, y);
        turns();
        errands();
        if (number % 6 == 0) orders();
        walks();
        if (number % 12 == 0) same("wide(1, 8)", subject.wide(1, 8), oracle.wide(1, 8));
    }

    private void same(String call, int got, int want) {
        CHECK.due(name + call, got, want);
    }

    private String text() {
        crossings = 6 + random.nextInt(3);
        StringBuilder text = new StringBuilder("town crossings " + crossings + " uses " + random.nextInt(2) + " half " + random.nextInt(2) + ";");
        int lengths = 1 + random.nextInt(9);
        boolean[][] stands = new boolean[8][8];
        for (int streets = 0; streets < 14;) {
            int x = random.nextInt(crossings);
            int y = random.nextInt(crossings);
            if (x == y || stands[x][y]) continue;
            stands[x][y] = true;
            stands[y][x] = true;
            streets++;
            text.append("street " + x + " " + y + " " + (1 + random.nextInt(lengths)) + ";");
        }
        for (int i = 0; i < 40; i++) {
            int x = random.nextInt(crossings);
            int y = random.nextInt(crossings);
            int z = random.nextInt(crossings);
            if (stands[x][y] && stands[y][z]) text.append("turn " + x + " " + y + " " + z + " uses " + random.nextInt(10) + ";");
        }
        for (int e = 0; e < 6; e++) {
            int x = random.nextInt(crossings);
            text.append("errand " + x + " " + (x + 1 + random.nextInt(crossings - 1)) % crossings + " at " + random.nextInt(24) + ";");
        }
        return text.toString();
    }

    private void tell(String text) {
        Check.tape(subject, text);
        for (int i = 0; i < text.length(); i += 20)
            oracle.feed(Check.four(text, i), Check.four(text, i + 4), Check.four(text, i + 8), Check.four(text, i + 12), Check.four(text, i + 16));
        oracle.end(text.length());
        same("town() of " + text, subject.town(), oracle.town());
        for (int what = 0; what <= 10; what++) same("count(" + what + ")", subject.count(what), oracle.count(what));
    }

    private void takeSome() {
        for (int i = 0; i < 200; i++) {
            int x = random.nextInt(crossings);
            int y = random.nextInt(crossings);
            int z = random.nextInt(crossings);
            same("take", subject.take(x, y, z), oracle.take(x, y, z));
        }
    }

    private void ways(int x, int y) {
        String pair = "(" + x + ", " + y + ")";
        same("bare" + pair, subject.bare(x, y), oracle.bare(x, y));
        same("way" + pair, subject.way(x, y), oracle.way(x, y));
        same("streets" + pair, subject.streets(x, y), oracle.streets(x, y));
        same("buy" + pair, subject.buy(x, y), oracle.buy(x, y));
        same("bought" + pair, subject.bought(x, y), oracle.bought(x, y));
        for (int i = 0; i < 12; i++) {
            same("stop" + pair + i, subject.stop(x, y, i), oracle.stop(x, y, i));
            same("lane" + pair + i, subject.lane(x, y, i), oracle.lane(x, y, i));
        }
        int z = random.nextInt(crossings);
        same("chase" + pair + z, subject.chase(x, y, z), oracle.chase(x, y, z));
    }

    private void turns() {
        same("shut()", subject.shut(), oracle.shut());
        same("key()", subject.key(), oracle.key());
        same("round()", subject.round(), oracle.round());
        same("uneven()", subject.uneven(), oracle.uneven());
        same("dearest()", subject.dearest(), oracle.dearest());
        for (int x = 0; x < crossings; x++) {
            same("reach(" + x + ")", subject.reach(x), oracle.reach(x));
            same("beside(" + x + ")", subject.beside(x), oracle.beside(x));
            for (int what = 0; what < 3; what++) same("corner(" + x + ", " + what + ")", subject.corner(x, what), oracle.corner(x, what));
        }
        for (int i = 0; i < 60; i++) {
            int x = random.nextInt(crossings);
            int y = random.nextInt(crossings);
            int z = random.nextInt(crossings);
            same("loss", subject.loss(x, y, z), oracle.loss(x, y, z));
            same("spent", subject.spent(x, y, z), oracle.spent(x, y, z));
            same("demand", subject.demand(x, y, z), oracle.demand(x, y, z));
        }
    }

    private void errands() {
        same("day()", subject.day(), oracle.day());
        same("fails()", subject.fails(), oracle.fails());
        same("dusk()", subject.dusk(), oracle.dusk());
        for (int e = -1; e < 7; e++) {
            same("goes(" + e + ")", subject.goes(e), oracle.goes(e));
            same("spares(" + e + ")", subject.spares(e), oracle.spares(e));
        }
        for (int set = -1; set < 65; set++) same("noon(" + set + ")", subject.noon(set), oracle.noon(set));
    }

    private void orders() {
        same("dawn()", subject.dawn(), oracle.dawn());
        same("least()", subject.least(), oracle.least());
        for (int i = 0; i < 6; i++) same("first(" + i + ")", subject.first(i), oracle.first(i));
    }

    private void walks() {
        for (int n = 0; n < 6; n++) {
            int x = random.nextInt(crossings);
            int y = random.nextInt(crossings);
            same("walks " + n, subject.walks(x, y, n), oracle.walks(x, y, n));
            same("sure " + n, subject.sure(x, y, n), oracle.sure(x, y, n));
            same("ends " + n, subject.ends(x, n), oracle.ends(x, n));
            same("wide " + n, subject.wide(x, n), oracle.wide(x, n));
        }
        for (int i = 0; i < 20; i++) {
            int seed = random.nextInt(2000000001);
            int x = random.nextInt(crossings);
            for (int what = 0; what < 3; what++) same("drawn", subject.drawn(seed, x, i + 1, what), oracle.drawn(seed, x, i + 1, what));
            same("strays", subject.strays(seed, i + 1, x, 20, i % crossings), oracle.strays(seed, i + 1, x, 20, i % crossings));
        }
    }
}
