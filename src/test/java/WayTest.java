/** Promises 17 to 30: ways, buying, who is shut in, ways at once and what cuts them. */
public final class WayTest {
    private static final Check CHECK = new Check("WayTest");

    public static void main(String[] args) {
        ways();
        ranks();
        turnsAndLoops();
        buying();
        shutIn();
        flows();
        wideFlow();
        wrong();
        CHECK.close();
    }

    private static void wayIs(SpentTurns s, int x, int y, int length, int... row) {
        String call = "(" + x + ", " + y + ")";
        CHECK.due("way" + call, s.way(x, y), length);
        CHECK.due("streets" + call, s.streets(x, y), row.length - 1);
        for (int i = 0; i < row.length; i++) CHECK.due("stop" + call + i, s.stop(x, y, i), row[i]);
        CHECK.due("stop" + call + row.length, s.stop(x, y, row.length), -1);
        CHECK.due("stop" + call + -1, s.stop(x, y, -1), -1);
    }

    private static void laneIs(SpentTurns s, int x, int y, int buys, int length, int... row) {
        String call = "(" + x + ", " + y + ")";
        CHECK.due("buy" + call, s.buy(x, y), buys);
        CHECK.due("bought" + call, s.bought(x, y), length);
        for (int i = 0; i < row.length; i++) CHECK.due("lane" + call + i, s.lane(x, y, i), row[i]);
        CHECK.due("lane" + call + row.length, s.lane(x, y, row.length), -1);
        CHECK.due("lane" + call + -1, s.lane(x, y, -1), -1);
    }

    private static void ways() {
        SpentTurns s = Check.town(TownTest.TOWN);
        wayIs(s, 0, 4, 5, 0, 1, 2, 4);
        wayIs(s, 3, 4, 6, 3, 0, 1, 2, 4);
        wayIs(s, 2, 2, 0, 2);
        wayIs(s, 4, 3, 4, 4, 2, 3);
        CHECK.due("bare(3, 4)", s.bare(3, 4), 4);
        CHECK.due("bare(0, 4)", s.bare(0, 4), 5);
        CHECK.due("bare(1, 1)", s.bare(1, 1), 0);
        laneIs(s, 3, 4, 0, 6, 3, 0, 1, 2, 4);
        s.take(0, 1, 2);
        wayIs(s, 0, 4, -1);
        CHECK.due("bare(0, 4) whatever turns", s.bare(0, 4), 5);
        laneIs(s, 0, 4, 1, 5, 0, 1, 2, 4);
        s.give(3, 2, 4);
        wayIs(s, 0, 4, 5, 0, 3, 2, 4);
        SpentTurns apart = Check.town("town crossings 4 uses 1 half 1;street 0 1 1;street 2 3 1;");
        wayIs(apart, 0, 2, -1);
        CHECK.due("bare of apart", apart.bare(0, 2), -1);
        CHECK.due("buy of apart", apart.buy(0, 2), -1);
        CHECK.due("bought of apart", apart.bought(0, 2), -1);
        CHECK.due("lane of apart", apart.lane(0, 2, 0), -1);
    }

    private static void ranks() {
        // of one length: 0 5 1 4 with three streets, 0 2 4 and 0 3 4 with two
        String streets = "street 0 5 1;street 5 1 1;street 1 4 2;street 0 2 1;street 2 4 3;street 0 3 2;street 3 4 2;";
        SpentTurns s = Check.town("town crossings 6 uses 1 half 0;" + streets);
        wayIs(s, 0, 4, 4, 0, 2, 4);
        s.take(0, 2, 4);
        wayIs(s, 0, 4, 4, 0, 3, 4);
        s.take(0, 3, 4);
        wayIs(s, 0, 4, 4, 0, 5, 1, 4);
        // the shortest goes ahead of fewest streets
        SpentTurns longer = Check.town("town crossings 3 uses 1 half 0;street 0 2 9;street 0 1 4;street 1 2 4;");
        wayIs(longer, 0, 2, 8, 0, 1, 2);
        // rows that part late: 0 1 2 4 ahead of 0 1 3 4
        SpentTurns late = Check.town("town crossings 5 uses 1 half 0;street 0 1 1;street 1 2 2;street 1 3 1;street 3 4 2;street 2 4 1;");
        wayIs(late, 0, 4, 4, 0, 1, 2, 4);
    }

    private static void turnsAndLoops() {
        // from 0 to 2 by 1 one must turn in the end street 1 3
        String streets = "street 0 1 1;street 1 2 1;street 1 3 5;turn 0 1 2 uses 0;";
        SpentTurns s = Check.town("town crossings 4 uses 1 half 1;" + streets);
        wayIs(s, 0, 2, 12, 0, 1, 3, 1, 2);
        // behind a half turn at 2 one is there already: 2 is the end when it is come to first
        wayIs(s, 3, 2, 6, 3, 1, 2);
        SpentTurns none = Check.town("town crossings 4 uses 1 half 0;" + streets);
        wayIs(none, 0, 2, -1);
        laneIs(none, 0, 2, 1, 2, 0, 1, 2);
    }

    private static void buying() {
        // straight on by two bought turns, around by one, far around by none
        String streets = "street 0 1 1;street 1 2 1;street 2 3 1;street 0 4 3;street 4 3 3;street 0 5 9;street 5 6 9;street 6 3 9;";
        SpentTurns s = Check.town("town crossings 7 uses 0 half 0;" + streets + "turn 0 5 6 uses 1;turn 5 6 3 uses 1;");
        laneIs(s, 0, 3, 0, 27, 0, 5, 6, 3);
        s.take(5, 6, 3);
        laneIs(s, 0, 3, 1, 6, 0, 4, 3);
        s.take(0, 5, 6);
        laneIs(s, 0, 3, 1, 6, 0, 4, 3);
        s.give(0, 1, 2);
        laneIs(s, 0, 3, 1, 3, 0, 1, 2, 3);
        laneIs(s, 3, 3, 0, 0, 3);
        CHECK.due("buying takes nothing", s.left(0, 1, 2), 1);
    }

    private static void shutIn() {
        SpentTurns s = Check.town(TownTest.TOWN);
        CHECK.due("reach(0)", s.reach(0), 31);
        CHECK.due("shut()", s.shut(), 0);
        CHECK.due("key()", s.key(), 124);
        CHECK.due("loss(1, 2, 4)", s.loss(1, 2, 4), 3);
        CHECK.due("loss(0, 1, 2)", s.loss(0, 1, 2), 2);
        CHECK.due("loss(4, 2, 1)", s.loss(4, 2, 1), 0);
        CHECK.due("loss(3, 2, 4)", s.loss(3, 2, 4), 0);
        CHECK.due("loss(0, 1, 3)", s.loss(0, 1, 3), -1);
        s.take(1, 2, 4);
        CHECK.due("reach(0) behind take", s.reach(0), 15);
        CHECK.due("reach(2) behind take", s.reach(2), 31);
        CHECK.due("shut() behind take", s.shut(), 3);
        CHECK.due("loss(1, 2, 4) behind take", s.loss(1, 2, 4), 0);
        SpentTurns pair = Check.town("town crossings 3 uses 0 half 0;street 0 1 1;street 1 2 1;turn 0 1 2 uses 9;turn 2 1 0 uses 1;");
        CHECK.due("key() of several", pair.key(), 12);
        CHECK.due("all uses left are away in loss()", pair.loss(0, 1, 2), 1);
        SpentTurns none = Check.town("town crossings 3 uses 0 half 0;street 0 1 1;");
        CHECK.due("shut() of one street", none.shut(), 4);
        CHECK.due("reach(2) of one street", none.reach(2), 4);
        CHECK.due("key() of none", none.key(), -1);
        // 2 0 1 0 3 and back: the half turn 0 1 0 is the least of four that shut in as many
        SpentTurns about = Check.town("town crossings 4 uses 1 half 1;street 0 1 1;street 0 2 1;street 0 3 1;turn 2 0 3 uses 0;turn 3 0 2 uses 0;");
        CHECK.due("loss(0, 1, 0)", about.loss(0, 1, 0), 2);
        CHECK.due("loss(2, 0, 1)", about.loss(2, 0, 1), 2);
        CHECK.due("loss(1, 0, 3)", about.loss(1, 0, 3), 2);
        CHECK.due("key(), the first turn of all", about.key(), 10);
    }

    private static void flows() {
        SpentTurns s = Check.town(TownTest.TOWN);
        CHECK.due("flow(0, 4)", s.flow(0, 4), 1);
        CHECK.due("cut(0, 4)", s.cut(0, 4), 1);
        CHECK.due("wall(0, 4, 0)", s.wall(0, 4, 0), 12);
        CHECK.due("wall(0, 4, 1)", s.wall(0, 4, 1), -1);
        CHECK.due("wall(0, 4, -1)", s.wall(0, 4, -1), -1);
        CHECK.due("wall(3, 4, 0)", s.wall(3, 4, 0), 301);
        CHECK.due("flow(0, 1)", s.flow(0, 1), -1);
        CHECK.due("cut(0, 1)", s.cut(0, 1), -1);
        CHECK.due("wall(0, 1, 0)", s.wall(0, 1, 0), -1);
        s.take(1, 2, 4);
        CHECK.due("flow(0, 4) of none", s.flow(0, 4), 0);
        CHECK.due("cut(0, 4) of none", s.cut(0, 4), 0);
        CHECK.due("wall(0, 4, 0) of none", s.wall(0, 4, 0), -1);
        CHECK.due("uses stay", s.count(6), 10);
    }

    private static void wideFlow() {
        // two ways from 0 to 3, by 1 with four uses and by 2 with two; behind 1 only three go on
        String streets = "street 0 1 1;street 1 4 1;street 4 3 1;street 0 2 1;street 2 3 1;";
        String turns = "turn 0 1 4 uses 4;turn 1 4 3 uses 3;turn 0 2 3 uses 2;";
        SpentTurns s = Check.town("town crossings 5 uses 0 half 3;" + streets + turns);
        CHECK.due("flow(0, 3)", s.flow(0, 3), 5);
        CHECK.due("cut(0, 3)", s.cut(0, 3), 2);
        CHECK.due("wall(0, 3, 0)", s.wall(0, 3, 0), 23);
        CHECK.due("wall(0, 3, 1)", s.wall(0, 3, 1), 143);
        CHECK.due("wall(0, 3, 2)", s.wall(0, 3, 2), -1);
        // a first way taken greedily (0 1 2 5) must be sent back in part for two at once
        String cross = "street 0 1 1;street 1 2 1;street 2 5 1;street 0 3 1;street 3 2 1;street 1 4 1;street 4 5 1;";
        String one = "turn 0 1 2 uses 1;turn 1 2 5 uses 1;turn 0 1 4 uses 1;turn 1 4 5 uses 1;turn 0 3 2 uses 1;turn 3 2 5 uses 0;";
        SpentTurns t = Check.town("town crossings 6 uses 0 half 0;" + cross + one);
        CHECK.due("flow(0, 5)", t.flow(0, 5), 2);
        CHECK.due("wall(0, 5, 0)", t.wall(0, 5, 0), 12);
        CHECK.due("wall(0, 5, 1)", t.wall(0, 5, 1), 14);
    }

    private static void wrong() {
        SpentTurns s = Check.town(TownTest.TOWN);
        int[][] pairs = {{-1, 0}, {0, -1}, {5, 0}, {0, 5}};
        for (int[] p : pairs) {
            CHECK.due("bare", s.bare(p[0], p[1]), -2);
            CHECK.due("way", s.way(p[0], p[1]), -2);
            CHECK.due("stop", s.stop(p[0], p[1], 0), -2);
            CHECK.due("streets", s.streets(p[0], p[1]), -2);
            CHECK.due("buy", s.buy(p[0], p[1]), -2);
            CHECK.due("bought", s.bought(p[0], p[1]), -2);
            CHECK.due("lane", s.lane(p[0], p[1], 0), -2);
            CHECK.due("flow", s.flow(p[0], p[1]), -2);
            CHECK.due("cut", s.cut(p[0], p[1]), -2);
            CHECK.due("wall", s.wall(p[0], p[1], 0), -2);
            CHECK.due("loss", s.loss(p[0], p[1], 0), -2);
        }
        CHECK.due("loss(0, 1, 5)", s.loss(0, 1, 5), -2);
        CHECK.due("flow(1, 1)", s.flow(1, 1), -2);
        CHECK.due("cut(1, 1)", s.cut(1, 1), -2);
        CHECK.due("wall(1, 1, 0)", s.wall(1, 1, 0), -2);
        CHECK.due("reach(5)", s.reach(5), -2);
        CHECK.due("reach(-1)", s.reach(-1), -2);
        SpentTurns none = new SpentTurns();
        CHECK.due("shut()", none.shut(), -2);
        CHECK.due("key()", none.key(), -2);
    }
}
