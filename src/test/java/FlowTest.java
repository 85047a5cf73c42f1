import java.util.ArrayList;
import java.util.List;
import java.util.Random;
import java.util.TreeSet;

/** Promises 28 to 30 on towns too large for the oracle: a flow pushed one by one through a table of arcs. */
public final class FlowTest {
    private static final Check CHECK = new Check("FlowTest");
    private static final Random RANDOM = new Random(66L);

    private int crossings;
    private int[][] room;
    private boolean[] seen;
    private SpentTurns town;

    public static void main(String[] args) {
        sentBack();
        for (int i = 0; i < 400; i++) new FlowTest().compare();
        CHECK.close();
    }

    /** The first way found, 0 1 2 3 7, must be sent back to 2, where it goes on by 4. */
    private static void sentBack() {
        String streets = "street 0 1 1;street 1 2 1;street 2 3 1;street 3 7 1;street 0 5 1;street 5 6 1;street 6 2 1;street 2 4 1;street 4 7 1;";
        String once = "turn 0 1 2 uses 1;turn 1 2 3 uses 1;turn 2 3 7 uses 1;turn 1 2 4 uses 1;turn 2 4 7 uses 1;"
                + "turn 0 5 6 uses 1;turn 5 6 2 uses 1;turn 6 2 3 uses 1;";
        SpentTurns s = Check.town("town crossings 8 uses 0 half 0;" + streets + once);
        CHECK.due("flow(0, 7)", s.flow(0, 7), 2);
        CHECK.due("cut(0, 7)", s.cut(0, 7), 2);
        CHECK.due("wall(0, 7, 0)", s.wall(0, 7, 0), 12);
        CHECK.due("wall(0, 7, 1)", s.wall(0, 7, 1), 56);
        // with nine uses at the beginnings the cut is behind the middle
        s.law(0, 1, 2, 9);
        s.law(0, 5, 6, 9);
        s.law(5, 6, 2, 9);
        CHECK.due("flow(0, 7) of more", s.flow(0, 7), 2);
        CHECK.due("cut(0, 7) of more", s.cut(0, 7), 2);
        CHECK.due("wall(0, 7, 0) of more", s.wall(0, 7, 0), 124);
        CHECK.due("wall(0, 7, 1) of more", s.wall(0, 7, 1), 237);
    }

    private void build() {
        crossings = 5 + RANDOM.nextInt(4);
        List<String> pairs = new ArrayList<>();
        StringBuilder text = new StringBuilder("town crossings " + crossings + " uses " + RANDOM.nextInt(2) + " half " + RANDOM.nextInt(2) + ";");
        int many = 6 + RANDOM.nextInt(9);
        for (int i = 0; i < many; i++) {
            int x = RANDOM.nextInt(crossings);
            int y = (x + 1 + RANDOM.nextInt(crossings - 1)) % crossings;
            pairs.add(x + " " + y);
            text.append("street " + x + " " + y + " 1;");
        }
        town = Check.town(text.toString());
        for (int i = 0; i < 40; i++) {
            int x = RANDOM.nextInt(crossings);
            town.law(x, RANDOM.nextInt(crossings), RANDOM.nextInt(crossings), RANDOM.nextInt(4));
        }
    }

    private void compare() {
        build();
        for (int x = 0; x < crossings; x++) {
            for (int y = 0; y < crossings; y++) {
                if (x != y && town.street(x, y) == 0) comparePair(x, y);
            }
        }
    }

    private void comparePair(int x, int y) {
        int size = crossings * crossings;
        room = new int[size][size];
        for (int a = 0; a < crossings; a++)
            for (int b = 0; b < crossings; b++)
                for (int c = 0; c < crossings; c++) {
                    room[a * crossings + b][b * crossings + c] = Math.max(0, town.left(a, b, c));
                }
        int[][] all = new int[size][];
        for (int i = 0; i < size; i++) all[i] = room[i].clone();
        int flow = 0;
        while (pushOne(x, y)) flow++;
        TreeSet<Integer> wall = new TreeSet<>();
        for (int i = 0; i < size; i++)
            for (int k = 0; k < size; k++) {
                if (all[i][k] > 0 && seen[i] && !seen[k]) wall.add(100 * (i / crossings) + 10 * (i % crossings) + k % crossings);
            }
        String call = "(" + x + ", " + y + ")";
        CHECK.due("flow" + call, town.flow(x, y), flow);
        CHECK.due("cut" + call, town.cut(x, y), wall.size());
        int i = 0;
        for (int code : wall) CHECK.due("wall" + call + i, town.wall(x, y, i++), code);
        CHECK.due("wall" + call + i, town.wall(x, y, i), -1);
    }

    private boolean pushOne(int x, int y) {
        seen = new boolean[room.length];
        for (int z = crossings - 1; z >= 0; z--) {
            if (town.street(x, z) > 0 && push(x * crossings + z, y)) return true;
        }
        return false;
    }

    private boolean push(int arc, int y) {
        if (arc % crossings == y) return true;
        if (seen[arc]) return false;
        seen[arc] = true;
        for (int next = room.length - 1; next >= 0; next--) {
            if (room[arc][next] > 0 && push(next, y)) {
                room[arc][next]--;
                room[next][arc]++;
                return true;
            }
        }
        return false;
    }
}
