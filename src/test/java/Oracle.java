import java.math.BigInteger;
import java.util.ArrayList;
import java.util.Collections;
import java.util.Comparator;
import java.util.HashMap;
import java.util.HashSet;
import java.util.List;
import java.util.Map;
import java.util.PriorityQueue;
import java.util.Set;
import java.util.TreeMap;
import java.util.function.Function;
import java.util.regex.Matcher;
import java.util.regex.Pattern;

/**
 * The document once more, in the plainest Java and by other means than the class: what is left is counted
 * from what was taken and given, ways come from a queue of whole rows, cuts from all sets of arcs, walks from
 * all rows. It is for small towns only.
 */
public final class Oracle {
    /** A fault of a text, thrown where it is found. */
    private static final class Fault extends RuntimeException {
        private static final long serialVersionUID = 1L;
        final int kind;
        final int place;

        Fault(int kind, int place) {
            this.kind = kind;
            this.place = place;
        }
    }

    private static final class Model {
        int crossings;
        int uses;
        int half;
        int lines;
        final TreeMap<List<Integer>, Integer> streets = new TreeMap<>(Comparator.comparing(List::toString));
        final Map<List<Integer>, Integer> told = new HashMap<>();
        final List<int[]> errands = new ArrayList<>();
        final List<int[]> led = new ArrayList<>();

        Model copy() {
            Model m = new Model();
            m.crossings = crossings;
            m.uses = uses;
            m.half = half;
            m.lines = lines;
            m.streets.putAll(streets);
            m.told.putAll(told);
            for (int[] e : errands) m.errands.add(e.clone());
            for (int[] l : led) m.led.add(l.clone());
            return m;
        }
    }

    private record Token(String text, int place) { }

    private record Row(int bought, int length, List<Integer> stops) { }

    private String tape = "";
    private int kind = 0;
    private int place = -1;
    private Model m = null;
    private final Map<Integer, Model> images = new HashMap<>();
    private final long[][] slots = new long[4][];
    private final int[] widths = new int[4];

    // ---- the text ----

    public int feed(int a, int b, int c, int d, int e) {
        if (tape.length() + 20 > 1600) return -1;
        for (int v : new int[] {a, b, c, d, e}) {
            for (int i = 3; i >= 0; i--) tape += (char) (v >>> 8 * i & 255);
        }
        return tape.length();
    }

    public int end(int n) {
        if (n < 0 || n > tape.length()) return -1;
        tape = tape.substring(0, n);
        return n;
    }

    public int town() {
        String text = tape;
        tape = "";
        try {
            Model read = parse(text);
            kind = 0;
            place = -1;
            m = read;
            return read == null ? 0 : read.lines;
        } catch (Fault f) {
            kind = f.kind;
            place = f.place;
            return -4;
        }
    }

    private List<Token> tokens;
    private int next;

    private Model parse(String text) {
        tokens = new ArrayList<>();
        Matcher matcher = Pattern.compile("[a-z]+|[0-9]+|;|[^ \\n]", Pattern.DOTALL).matcher(text);
        while (matcher.find()) tokens.add(new Token(matcher.group(), matcher.start()));
        tokens.add(new Token("", text.length()));
        next = 0;
        if (tokens.size() == 1) return null;
        Model read = new Model();
        word("town");
        word("crossings");
        read.crossings = number(2, 8, v -> 0);
        word("uses");
        read.uses = number(0, 3, v -> 0);
        word("half");
        read.half = number(0, 3, v -> 0);
        word(";");
        read.lines = 1;
        while (!tokens.get(next).text.isEmpty()) {
            Token head = tokens.get(next);
            if (head.text.equals("errand") && read.errands.size() == 6) throw new Fault(3, head.place);
            next++;
            switch (head.text) {
                case "street" -> readStreet(read);
                case "turn" -> readTurn(read);
                case "errand" -> readErrand(read);
                default -> throw new Fault(1, head.place);
            }
            word(";");
            read.lines++;
        }
        return read;
    }

    private void readStreet(Model read) {
        int top = read.crossings - 1;
        int x = number(0, top, v -> 0);
        int y = number(0, top, v -> v == x ? 2 : 0);
        boolean full = read.streets.size() == 14 && !read.streets.containsKey(pair(x, y));
        int n = number(1, 9, v -> full ? 3 : 0);
        read.streets.put(pair(x, y), n);
    }

    private void readTurn(Model read) {
        int top = read.crossings - 1;
        int x = number(0, top, v -> 0);
        int y = number(0, top, v -> read.streets.containsKey(pair(x, v)) ? 0 : 2);
        int z = number(0, top, v -> read.streets.containsKey(pair(y, v)) ? 0 : 2);
        word("uses");
        read.told.put(List.of(x, y, z), number(0, 9, v -> 0));
    }

    private void readErrand(Model read) {
        int top = read.crossings - 1;
        int x = number(0, top, v -> 0);
        int y = number(0, top, v -> v == x ? 2 : 0);
        word("at");
        read.errands.add(new int[] {x, y, number(0, 23, v -> 0)});
    }

    private void word(String word) {
        Token t = tokens.get(next);
        if (!t.text.equals(word)) throw new Fault(1, t.place);
        next++;
    }

    private int number(int low, int high, Function<Integer, Integer> more) {
        Token t = tokens.get(next);
        if (!t.text.matches("[0-9]+")) throw new Fault(1, t.place);
        BigInteger v = new BigInteger(t.text);
        if (v.compareTo(BigInteger.valueOf(low)) < 0 || v.compareTo(BigInteger.valueOf(high)) > 0) {
            throw new Fault(2, t.place);
        }
        int fault = more.apply(v.intValue());
        if (fault != 0) throw new Fault(fault, t.place);
        next++;
        return v.intValue();
    }

    public int fault(int what) {
        return what == 0 ? kind : what == 1 ? place : -1;
    }

    // ---- what there is ----

    private static List<Integer> pair(int x, int y) {
        return List.of(Math.min(x, y), Math.max(x, y));
    }

    private boolean no(int... xs) {
        for (int x : xs) if (m == null || x < 0 || x >= m.crossings) return true;
        return m == null;
    }

    private boolean linked(int x, int y) {
        return m.streets.containsKey(pair(x, y));
    }

    private boolean turnThere(int x, int y, int z) {
        return linked(x, y) && linked(y, z);
    }

    private int morning(List<Integer> t) {
        return m.told.getOrDefault(t, t.get(0).equals(t.get(2)) ? m.half : m.uses);
    }

    private List<List<Integer>> turns() {
        List<List<Integer>> all = new ArrayList<>();
        for (int x = 0; x < m.crossings; x++)
            for (int y = 0; y < m.crossings; y++)
                for (int z = 0; z < m.crossings; z++) if (turnThere(x, y, z)) all.add(List.of(x, y, z));
        return all;
    }

    private Map<List<Integer>, Integer> leftNow() {
        Map<List<Integer>, Integer> left = new HashMap<>();
        for (List<Integer> t : turns()) left.put(t, morning(t));
        for (int[] l : m.led) left.merge(List.of(l[0], l[1], l[2]), l[3] == 1 ? -1 : 1, Integer::sum);
        return left;
    }

    private static int sum(Map<List<Integer>, Integer> left) {
        int sum = 0;
        for (int v : left.values()) sum += v;
        return sum;
    }

    private static int code(List<Integer> t) {
        return 100 * t.get(0) + 10 * t.get(1) + t.get(2);
    }

    public int street(int x, int y) {
        if (no(x, y) || x == y) return -2;
        return m.streets.getOrDefault(pair(x, y), 0);
    }

    public int uses(int x, int y, int z) {
        if (no(x, y, z)) return -2;
        return turnThere(x, y, z) ? morning(List.of(x, y, z)) : -1;
    }

    public int left(int x, int y, int z) {
        if (no(x, y, z)) return -2;
        return turnThere(x, y, z) ? leftNow().get(List.of(x, y, z)) : -1;
    }

    public int beside(int x) {
        if (no(x)) return -2;
        int bits = 0;
        for (List<Integer> p : m.streets.keySet()) {
            if (p.get(0) == x) bits |= 1 << p.get(1);
            if (p.get(1) == x) bits |= 1 << p.get(0);
        }
        return bits;
    }

    public int corner(int x, int what) {
        if (no(x) || what < 0 || what > 2) return -2;
        int sum = 0;
        for (Map.Entry<List<Integer>, Integer> e : leftNow().entrySet()) {
            if (e.getKey().get(1) == x) {
                if (what == 0) sum++;
                if (what == 1 && e.getValue() > 0) sum++;
                if (what == 2) sum += e.getValue();
            }
        }
        return sum;
    }

    public int errand(int errand, int what) {
        if (m == null || errand < 0 || errand >= m.errands.size() || what < 0 || what > 2) return -2;
        return m.errands.get(errand)[what];
    }

    public int take(int x, int y, int z) {
        if (no(x, y, z)) return -2;
        if (!turnThere(x, y, z)) return -3;
        if (left(x, y, z) == 0 || m.led.size() == 60) return -5;
        m.led.add(new int[] {x, y, z, 1});
        return left(x, y, z);
    }

    public int give(int x, int y, int z) {
        if (no(x, y, z)) return -2;
        if (!turnThere(x, y, z)) return -3;
        if (left(x, y, z) == 9 || m.led.size() == 60) return -5;
        m.led.add(new int[] {x, y, z, 0});
        return left(x, y, z);
    }

    public int undo() {
        if (m == null) return -2;
        if (m.led.isEmpty()) return -5;
        m.led.remove(m.led.size() - 1);
        return m.led.size();
    }

    public int anew() {
        if (m == null) return -2;
        int n = m.led.size();
        m.led.clear();
        return n;
    }

    public int led(int i, int what) {
        if (m == null || what < 0 || what > 3) return -2;
        return i < 0 || i >= m.led.size() ? -1 : m.led.get(i)[what];
    }

    // ---- ways ----

    private static int compareRows(List<Integer> a, List<Integer> b) {
        for (int i = 0; i < Math.min(a.size(), b.size()); i++) {
            if (!a.get(i).equals(b.get(i))) return a.get(i) - b.get(i);
        }
        return a.size() - b.size();
    }

    private static final Comparator<Row> RANK = Comparator.comparingInt(Row::bought).thenComparingInt(Row::length)
            .thenComparingInt(r -> r.stops().size()).thenComparing(Row::stops, Oracle::compareRows);

    /** mode 0: with uses, 1: buying, 2: whatever turns. */
    private Row best(Map<List<Integer>, Integer> left, int x, int y, int mode) {
        PriorityQueue<Row> queue = new PriorityQueue<>(RANK);
        Set<List<Integer>> passed = new HashSet<>();
        queue.add(new Row(0, 0, List.of(x)));
        while (!queue.isEmpty()) {
            Row row = queue.poll();
            int size = row.stops().size();
            int at = row.stops().get(size - 1);
            if (at == y) return row;
            if (size > 1 && !passed.add(List.of(row.stops().get(size - 2), at))) continue;
            for (int z = 0; z < m.crossings; z++) {
                if (!linked(at, z)) continue;
                int buy = 0;
                if (size > 1 && mode != 2 && left.get(List.of(row.stops().get(size - 2), at, z)) == 0) buy = 1;
                if (buy == 1 && mode == 0) continue;
                List<Integer> stops = new ArrayList<>(row.stops());
                stops.add(z);
                queue.add(new Row(row.bought() + buy, row.length() + m.streets.get(pair(at, z)), stops));
            }
        }
        return null;
    }

    private static List<List<Integer>> turnsOf(List<Integer> stops) {
        List<List<Integer>> all = new ArrayList<>();
        for (int i = 2; i < stops.size(); i++) all.add(List.of(stops.get(i - 2), stops.get(i - 1), stops.get(i)));
        return all;
    }

    public int bare(int x, int y) {
        if (no(x, y)) return -2;
        Row row = best(leftNow(), x, y, 2);
        return row == null ? -1 : row.length();
    }

    public int way(int x, int y) {
        if (no(x, y)) return -2;
        Row row = best(leftNow(), x, y, 0);
        return row == null ? -1 : row.length();
    }

    public int stop(int x, int y, int i) {
        if (no(x, y)) return -2;
        Row row = best(leftNow(), x, y, 0);
        return row == null || i < 0 || i >= row.stops().size() ? -1 : row.stops().get(i);
    }

    public int streets(int x, int y) {
        if (no(x, y)) return -2;
        Row row = best(leftNow(), x, y, 0);
        return row == null ? -1 : row.stops().size() - 1;
    }

    public int buy(int x, int y) {
        if (no(x, y)) return -2;
        Row row = best(leftNow(), x, y, 1);
        return row == null ? -1 : row.bought();
    }

    public int bought(int x, int y) {
        if (no(x, y)) return -2;
        Row row = best(leftNow(), x, y, 1);
        return row == null ? -1 : row.length();
    }

    public int lane(int x, int y, int i) {
        if (no(x, y)) return -2;
        Row row = best(leftNow(), x, y, 1);
        return row == null || i < 0 || i >= row.stops().size() ? -1 : row.stops().get(i);
    }

    public int reach(int x) {
        if (no(x)) return -2;
        int bits = 0;
        for (int y = 0; y < m.crossings; y++) if (way(x, y) >= 0) bits |= 1 << y;
        return bits;
    }

    private int shutBy(Map<List<Integer>, Integer> left) {
        int sum = 0;
        for (int x = 0; x < m.crossings; x++)
            for (int y = 0; y < m.crossings; y++) if (best(left, x, y, 0) == null) sum++;
        return sum;
    }

    public int shut() {
        return m == null ? -2 : shutBy(leftNow());
    }

    public int loss(int x, int y, int z) {
        if (no(x, y, z)) return -2;
        if (!turnThere(x, y, z)) return -1;
        Map<List<Integer>, Integer> left = leftNow();
        left.put(List.of(x, y, z), 0);
        return shutBy(left) - shutBy(leftNow());
    }

    public int key() {
        if (m == null) return -2;
        int best = 0;
        int answer = -1;
        for (List<Integer> t : turns()) {
            int more = loss(t.get(0), t.get(1), t.get(2));
            if (more > best) {
                best = more;
                answer = code(t);
            }
        }
        return answer;
    }

    // ---- flow: all sets of arcs with those from x and without those to y ----

    private List<List<Integer>> walls;
    private int flowOf;

    private int cutAll(int x, int y) {
        if (no(x, y) || x == y) return -2;
        if (linked(x, y)) return -1;
        List<List<Integer>> arcs = new ArrayList<>();
        for (int a = 0; a < m.crossings; a++)
            for (int b = 0; b < m.crossings; b++) if (linked(a, b)) arcs.add(List.of(a, b));
        Map<List<Integer>, Integer> left = leftNow();
        flowOf = Integer.MAX_VALUE;
        int meet = 0;
        for (int set = 0; set < 1 << arcs.size(); set++) {
            boolean fits = true;
            for (int i = 0; i < arcs.size(); i++) {
                boolean in = (set >> i & 1) == 1;
                if (arcs.get(i).get(0) == x && !in || arcs.get(i).get(1) == y && in) fits = false;
            }
            if (!fits) continue;
            int uses = 0;
            for (Map.Entry<List<Integer>, Integer> e : left.entrySet()) {
                if (crosses(arcs, set, e.getKey())) uses += e.getValue();
            }
            if (uses < flowOf) {
                flowOf = uses;
                meet = set;
            } else if (uses == flowOf) {
                meet &= set;
            }
        }
        walls = new ArrayList<>();
        for (List<Integer> t : turns()) if (left.get(t) > 0 && crosses(arcs, meet, t)) walls.add(t);
        return 0;
    }

    private static boolean crosses(List<List<Integer>> arcs, int set, List<Integer> t) {
        int a = arcs.indexOf(List.of(t.get(0), t.get(1)));
        int b = arcs.indexOf(List.of(t.get(1), t.get(2)));
        return (set >> a & 1) == 1 && (set >> b & 1) == 0;
    }

    public int flow(int x, int y) {
        int answer = cutAll(x, y);
        return answer == 0 ? flowOf : answer;
    }

    public int cut(int x, int y) {
        int answer = cutAll(x, y);
        return answer == 0 ? walls.size() : answer;
    }

    public int wall(int x, int y, int i) {
        int answer = cutAll(x, y);
        return answer != 0 ? answer : i < 0 || i >= walls.size() ? -1 : code(walls.get(i));
    }

    // ---- errands ----

    private final Map<Integer, Integer> gone = new HashMap<>();
    private int failing;
    private Map<List<Integer>, Integer> evening;

    private int liveBy(List<Integer> order) {
        evening = leftNow();
        gone.clear();
        failing = -1;
        for (int e : order) {
            Row row = best(evening, m.errands.get(e)[0], m.errands.get(e)[1], 0);
            if (row == null) {
                if (failing < 0) failing = e;
                continue;
            }
            gone.put(e, row.length());
            for (List<Integer> t : turnsOf(row.stops())) evening.merge(t, -1, Integer::sum);
        }
        return gone.size();
    }

    private List<Integer> byHours() {
        List<Integer> order = new ArrayList<>();
        for (int i = 0; i < m.errands.size(); i++) order.add(i);
        order.sort(Comparator.comparingInt(e -> m.errands.get(e)[2]));
        return order;
    }

    public int day() {
        return m == null ? -2 : liveBy(byHours());
    }

    public int goes(int errand) {
        if (m == null || errand < 0 || errand >= m.errands.size()) return -2;
        liveBy(byHours());
        return gone.getOrDefault(errand, -1);
    }

    public int fails() {
        if (m == null) return -2;
        liveBy(byHours());
        return failing;
    }

    public int dusk() {
        if (m == null) return -2;
        liveBy(byHours());
        return sum(evening);
    }

    public int spent(int x, int y, int z) {
        if (no(x, y, z)) return -2;
        liveBy(byHours());
        return evening.getOrDefault(List.of(x, y, z), -1);
    }

    private int most;
    private List<Integer> firstOrder;
    private int leastLength;

    private void allOrders(List<Integer> head) {
        if (head.size() == m.errands.size()) {
            int done = liveBy(head);
            int length = 0;
            for (int v : gone.values()) length += v;
            if (done > most) {
                most = done;
                firstOrder = new ArrayList<>(head);
                leastLength = length;
            } else if (done == most) {
                leastLength = Math.min(leastLength, length);
            }
            return;
        }
        for (int e = 0; e < m.errands.size(); e++) {
            if (!head.contains(e)) {
                List<Integer> longer = new ArrayList<>(head);
                longer.add(e);
                allOrders(longer);
            }
        }
    }

    public int dawn() {
        if (m == null) return -2;
        most = -1;
        allOrders(List.of());
        return most;
    }

    public int first(int i) {
        if (dawn() == -2) return -2;
        return i < 0 || i >= firstOrder.size() ? -1 : firstOrder.get(i);
    }

    public int least() {
        return dawn() == -2 ? -2 : leastLength;
    }

    public int spares(int errand) {
        if (m == null || errand < 0 || errand >= m.errands.size()) return -100;
        List<Integer> order = byHours();
        int with = liveBy(order);
        order.remove(Integer.valueOf(errand));
        return liveBy(order) - with;
    }

    public int demand(int x, int y, int z) {
        if (no(x, y, z)) return -2;
        if (!turnThere(x, y, z)) return -1;
        int sum = 0;
        for (int[] e : m.errands) {
            Row row = best(leftNow(), e[0], e[1], 0);
            if (row != null && turnsOf(row.stops()).contains(List.of(x, y, z))) sum++;
        }
        return sum;
    }

    public int dearest() {
        if (m == null) return -2;
        int best = 0;
        int answer = -1;
        for (List<Integer> t : turns()) {
            int d = demand(t.get(0), t.get(1), t.get(2));
            if (d > best) {
                best = d;
                answer = code(t);
            }
        }
        return answer;
    }

    public int noon(int set) {
        if (m == null || set < 0 || set >= 1 << m.errands.size()) return -2;
        Map<List<Integer>, Integer> left = leftNow();
        int sum = 0;
        for (int e = 0; e < m.errands.size(); e++) {
            if ((set & 1 << e) == 0) continue;
            Row row = best(left, m.errands.get(e)[0], m.errands.get(e)[1], 1);
            if (row == null) return -1;
            sum += row.bought();
            for (List<Integer> t : turnsOf(row.stops())) if (left.get(t) > 0) left.put(t, left.get(t) - 1);
        }
        return sum;
    }

    // ---- rounds, the game, the thief ----

    private List<List<Integer>> open() {
        List<List<Integer>> all = new ArrayList<>();
        Map<List<Integer>, Integer> left = leftNow();
        for (List<Integer> t : turns()) if (left.get(t) > 0) all.add(t);
        return all;
    }

    public int uneven() {
        if (m == null) return -2;
        int sum = 0;
        for (int x = 0; x < m.crossings; x++) {
            for (int y = 0; y < m.crossings; y++) {
                int come = 0;
                int go = 0;
                for (List<Integer> t : open()) {
                    if (t.get(0) == x && t.get(1) == y) go++;
                    if (t.get(1) == x && t.get(2) == y) come++;
                }
                if (come != go) sum++;
            }
        }
        return sum;
    }

    /** Removes closed trails one by one, each tied to what has been removed: all must go. */
    public int round() {
        if (m == null) return -2;
        List<List<Integer>> open = open();
        if (open.isEmpty() || uneven() > 0) return 0;
        Set<List<Integer>> met = new HashSet<>(Set.of(open.get(0).subList(0, 2)));
        boolean more = true;
        while (more) {
            more = false;
            for (List<Integer> t : open) {
                if (met.contains(t.subList(0, 2)) && met.add(t.subList(1, 3))) more = true;
                if (met.contains(t.subList(1, 3)) && met.add(t.subList(0, 2))) more = true;
            }
        }
        for (List<Integer> t : open) if (!met.contains(t.subList(0, 2))) return 0;
        return 1;
    }

    private boolean winning(Map<List<Integer>, Integer> left, int x, int y) {
        return !goodTurns(left, x, y).isEmpty();
    }

    private List<Integer> goodTurns(Map<List<Integer>, Integer> left, int x, int y) {
        List<Integer> good = new ArrayList<>();
        for (int z = 0; z < m.crossings; z++) {
            List<Integer> t = List.of(x, y, z);
            if (left.getOrDefault(t, 0) > 0) {
                Map<List<Integer>, Integer> less = new HashMap<>(left);
                less.merge(t, -1, Integer::sum);
                if (!winning(less, y, z)) good.add(z);
            }
        }
        return good;
    }

    public int wins(int x, int y) {
        if (no(x, y) || x == y) return -2;
        if (!linked(x, y)) return -3;
        return sum(leftNow()) > 12 ? -1 : winning(leftNow(), x, y) ? 1 : 0;
    }

    public int turn(int x, int y) {
        if (no(x, y) || x == y) return -2;
        if (!linked(x, y)) return -3;
        if (sum(leftNow()) > 12) return -1;
        List<Integer> good = goodTurns(leftNow(), x, y);
        return good.isEmpty() ? -1 : Collections.min(good);
    }

    public int chase(int x, int y, int z) {
        if (no(x, y, z)) return -2;
        Map<List<Integer>, Integer> left = leftNow();
        Row thief = best(left, x, y, 0);
        if (thief == null) return -1;
        for (List<Integer> t : turnsOf(thief.stops())) left.put(t, 0);
        Row row = best(left, z, y, 0);
        return row == null ? -1 : row.length();
    }

    // ---- walks: all rows of crossings by streets, looked at when they are whole ----

    private void rows(List<Integer> head, int more, List<List<Integer>> all) {
        if (more == 0) {
            all.add(head);
            return;
        }
        for (int z = 0; z < m.crossings; z++) {
            if (linked(head.get(head.size() - 1), z)) {
                List<Integer> longer = new ArrayList<>(head);
                longer.add(z);
                rows(longer, more - 1, all);
            }
        }
    }

    private List<List<Integer>> walksFrom(int x, int n) {
        List<List<Integer>> all = new ArrayList<>();
        rows(List.of(x), n, all);
        Map<List<Integer>, Integer> left = leftNow();
        all.removeIf(row -> {
            List<List<Integer>> turns = turnsOf(row);
            for (List<Integer> t : turns) if (Collections.frequency(turns, t) > left.get(t)) return true;
            return false;
        });
        return all;
    }

    private static int last(List<Integer> row) {
        return row.get(row.size() - 1);
    }

    public int walks(int x, int y, int n) {
        if (no(x, y) || n < 0 || n > 8) return -2;
        int sum = 0;
        for (List<Integer> row : walksFrom(x, n)) if (last(row) == y) sum++;
        return sum;
    }

    public int sure(int x, int y, int n) {
        if (no(x, y) || n < 0 || n > 8) return -2;
        int bits = 0;
        for (int c = 0; c < m.crossings; c++) {
            int with = 0;
            int all = 0;
            for (List<Integer> row : walksFrom(x, n)) {
                if (last(row) == y) {
                    all++;
                    if (row.contains(c)) with++;
                }
            }
            if (all > 0 && with == all) bits |= 1 << c;
        }
        return bits;
    }

    public int ends(int x, int n) {
        if (no(x) || n < 0 || n > 8) return -2;
        int bits = 0;
        for (List<Integer> row : walksFrom(x, n)) bits |= 1 << last(row);
        return bits;
    }

    public int wide(int x, int n) {
        return no(x) || n < 0 || n > 8 ? -2 : walksFrom(x, n).size();
    }

    private List<List<Integer>> fitting;

    private int fit(int slot, int x) {
        if (slot < 0 || slot > 3 || no(x)) return -2;
        if (slots[slot] == null) return -6;
        long[] row = slots[slot];
        if (row.length % 3 != 0 || row.length > 24) return -2;
        List<String> seen = new ArrayList<>();
        for (int i = 0; i < row.length; i += 3) {
            for (int k = i; k < i + 3; k++) if (row[k] < 0 || row[k] >= m.crossings) return -2;
            if (!turnThere((int) row[i], (int) row[i + 1], (int) row[i + 2])) return -2;
            seen.add(List.of((int) row[i], (int) row[i + 1], (int) row[i + 2]).toString());
        }
        Collections.sort(seen);
        fitting = new ArrayList<>();
        rows(List.of(x), row.length / 3 + 1, fitting);
        fitting.removeIf(r -> {
            List<String> took = new ArrayList<>();
            for (List<Integer> t : turnsOf(r)) took.add(t.toString());
            Collections.sort(took);
            return !took.equals(seen);
        });
        return 0;
    }

    public int fits(int slot, int x) {
        int answer = fit(slot, x);
        return answer == 0 ? fitting.size() : answer;
    }

    public int gone(int slot, int x) {
        int answer = fit(slot, x);
        if (answer != 0) return answer;
        int bits = 0;
        for (List<Integer> row : fitting) bits |= 1 << last(row);
        return bits;
    }

    private int marchLength;

    public int march(int slot) {
        if (slot < 0 || slot > 3 || m == null) return -2;
        if (slots[slot] == null) return -6;
        List<Integer> row = new ArrayList<>();
        for (long v : slots[slot]) {
            if (v < 0 || v >= m.crossings) return -2;
            row.add((int) v);
        }
        marchLength = 0;
        Map<List<Integer>, Integer> left = leftNow();
        for (int come = 1; come < row.size(); come++) {
            if (!linked(row.get(come - 1), row.get(come))) return come;
            List<List<Integer>> turns = turnsOf(row.subList(0, come + 1));
            for (List<Integer> t : turns) if (Collections.frequency(turns, t) > left.get(t)) return come;
            marchLength += m.streets.get(pair(row.get(come - 1), row.get(come)));
        }
        return row.size();
    }

    public int length(int slot) {
        int answer = march(slot);
        return answer < 0 ? answer : marchLength;
    }

    // ---- strangers ----

    private List<Integer> stray(int seed, int x, int n, Map<List<Integer>, Integer> left) {
        BigInteger v = BigInteger.valueOf(seed);
        List<Integer> row = new ArrayList<>(List.of(x));
        while (row.size() <= n) {
            int at = last(row);
            List<Integer> options = new ArrayList<>();
            for (int z = 0; z < m.crossings; z++) {
                if (!linked(at, z)) continue;
                if (row.size() == 1 || left.get(List.of(row.get(row.size() - 2), at, z)) > 0) options.add(z);
            }
            if (options.isEmpty()) break;
            v = v.multiply(BigInteger.valueOf(1103515245)).add(BigInteger.valueOf(12345)).mod(BigInteger.TWO.pow(31));
            int z = options.get(v.divide(BigInteger.valueOf(65536)).mod(BigInteger.valueOf(options.size())).intValue());
            if (row.size() > 1) left.merge(List.of(row.get(row.size() - 2), at, z), -1, Integer::sum);
            row.add(z);
        }
        return row;
    }

    public int drawn(int seed, int x, int n, int what) {
        if (seed < 0 || seed > 2000000000 || no(x) || n < 0 || n > 20 || what < 0 || what > 2) return -2;
        Map<List<Integer>, Integer> left = leftNow();
        List<Integer> row = stray(seed, x, n, left);
        return what == 0 ? last(row) : what == 1 ? row.size() - 1 : sum(left);
    }

    public int strays(int seed, int many, int x, int n, int y) {
        if (seed < 0 || seed > 2000000000 || many < 1 || many > 20 || no(x, y) || n < 0 || n > 20) return -2;
        int sum = 0;
        for (int i = 0; i < many; i++) if (last(stray(seed + i, x, n, leftNow())) == y) sum++;
        return sum;
    }

    // ---- changes ----

    public int build(int x, int y, int n) {
        if (no(x, y) || x == y || n < 0 || n > 9) return -2;
        boolean isNew = !linked(x, y) && n > 0;
        if (!m.led.isEmpty() || isNew && m.streets.size() == 14) return -5;
        int was = street(x, y);
        if (n == 0) {
            m.streets.remove(pair(x, y));
            m.told.keySet().removeIf(t -> pair(t.get(0), t.get(1)).equals(pair(x, y))
                    || pair(t.get(1), t.get(2)).equals(pair(x, y)));
        } else {
            m.streets.put(pair(x, y), n);
        }
        return was;
    }

    public int law(int x, int y, int z, int n) {
        if (no(x, y, z) || n < 0 || n > 9) return -2;
        if (!turnThere(x, y, z)) return -3;
        if (!m.led.isEmpty()) return -5;
        int was = morning(List.of(x, y, z));
        m.told.put(List.of(x, y, z), n);
        return was;
    }

    public int send(int errand, int x, int y, int hour) {
        if (no(x, y) || x == y || errand < 0 || errand >= m.errands.size() || hour < 0 || hour > 23) return -2;
        int[] was = m.errands.set(errand, new int[] {x, y, hour});
        return 100 * was[2] + 10 * was[0] + was[1];
    }

    public int count(int what) {
        if (what < 0 || what > 10) return -1;
        if (what == 9) return tape.length();
        if (what == 10) {
            int sum = 0;
            for (long[] row : slots) if (row != null) sum++;
            return sum;
        }
        if (m == null) return 0;
        return switch (what) {
            case 0 -> m.crossings;
            case 1 -> m.streets.size();
            case 2 -> turns().size();
            case 3 -> m.uses;
            case 4 -> m.half;
            case 5 -> m.errands.size();
            case 6 -> sum(leftNow());
            case 7 -> m.led.size();
            default -> m.lines;
        };
    }

    public int keep(int k) {
        if (k < 0 || k > 2) return -2;
        images.put(k, m == null ? null : m.copy());
        return 0;
    }

    public int back(int k) {
        if (k < 0 || k > 2) return -2;
        if (!images.containsKey(k)) return -6;
        Model image = images.get(k);
        m = image == null ? null : image.copy();
        return 0;
    }

    // ---- slots ----

    public int row(int slot, int width, int n) {
        if (slot < 0 || slot > 3 || width < 0 || width > 3 || n > 60) return -2;
        if (n < 0) return -3;
        slots[slot] = new long[n];
        widths[slot] = width;
        return 0;
    }

    public int write(int slot, int i, long v) {
        if (slot < 0 || slot > 3) return -2;
        if (slots[slot] == null) return -6;
        if (i < 0 || i >= slots[slot].length) return -7;
        int cut = 64 - (8 << widths[slot]);
        slots[slot][i] = v << cut >> cut;
        return 0;
    }

    public int paste(int slot, int i, int to, int k, int n) {
        if (slot < 0 || slot > 3 || to < 0 || to > 3) return -2;
        if (slots[slot] == null || slots[to] == null) return -6;
        if (widths[slot] != widths[to]) return -8;
        if (i < 0 || k < 0 || n < 0) return -7;
        if ((long) i + n > slots[slot].length || (long) k + n > slots[to].length) return -7;
        long[] were = slots[slot].clone();
        for (int j = 0; j < n; j++) slots[to][k + j] = were[i + j];
        return 0;
    }
}
