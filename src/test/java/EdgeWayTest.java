/** Promises 17 to 30 and terms II and III: each boundary that a sentence names, in a test of its own. */
public final class EdgeWayTest {
    private static final Check CHECK = new Check("EdgeWayTest");
    private static final int LOWEST = Integer.MIN_VALUE;
    private static final int HIGHEST = Integer.MAX_VALUE;
    private static final int[] NONE_OF_FOUR = {-1, 4, 7, 8, 64, LOWEST, HIGHEST};
    private static final int[] NO_PLACE = {-1, 40, 64, LOWEST, HIGHEST};
    private static final String PLENTY = "town crossings 4 uses 2 half 1;street 0 1 1;street 1 2 9;";
    private static final String SPENT = "town crossings 4 uses 0 half 0;street 0 1 1;street 1 2 9;";

    public static void main(String[] args) {
        CHECK.all(EdgeWayTest.class);
        CHECK.close();
    }

    /** All eight crossings in a row, nine long each. */
    private static SpentTurns longest(int uses) {
        StringBuilder text = new StringBuilder("town crossings 8 uses " + uses + " half 0;");
        for (int x = 0; x < 7; x++) text.append("street " + x + " " + (x + 1) + " 9;");
        return Check.town(text.toString());
    }

    private static void wayIs(SpentTurns s, int length, int... row) {
        int x = row[0];
        int y = row[row.length - 1];
        CHECK.due("way", s.way(x, y), length);
        CHECK.due("streets", s.streets(x, y), row.length - 1);
        for (int i = 0; i < row.length; i++) CHECK.due("stop " + i, s.stop(x, y, i), row[i]);
        CHECK.due("stop behind the last", s.stop(x, y, row.length), -1);
    }

    private static void laneIs(SpentTurns s, int buys, int length, int... row) {
        int x = row[0];
        int y = row[row.length - 1];
        CHECK.due("buy", s.buy(x, y), buys);
        CHECK.due("bought", s.bought(x, y), length);
        for (int i = 0; i < row.length; i++) CHECK.due("lane " + i, s.lane(x, y, i), row[i]);
        CHECK.due("lane behind the last", s.lane(x, y, row.length), -1);
    }

    // ---- 17: bare ----

    static void p17_itself() {
        for (int x = 0; x < 4; x++) CHECK.due("bare", Check.town(SPENT).bare(x, x), 0);
    }

    static void p17_whateverTurns() {
        CHECK.due("bare(0, 2)", Check.town(SPENT).bare(0, 2), 10);
        CHECK.due("way(0, 2)", Check.town(SPENT).way(0, 2), -1);
    }

    static void p17_theLongest() {
        CHECK.due("bare(0, 7)", longest(0).bare(0, 7), 63);
        CHECK.due("bare(7, 0)", longest(0).bare(7, 0), 63);
    }

    static void p17_shortestNotStraight() {
        SpentTurns s = Check.town("town crossings 3 uses 0 half 0;street 0 2 9;street 0 1 4;street 1 2 4;");
        CHECK.due("bare(0, 2)", s.bare(0, 2), 8);
    }

    static void p17_thereIsNone() {
        CHECK.due("bare(0, 3)", Check.town(PLENTY).bare(0, 3), -1);
        CHECK.due("bare(3, 0)", Check.town(PLENTY).bare(3, 0), -1);
    }

    static void p17_noneSuch() {
        SpentTurns s = Check.town(PLENTY);
        for (int x : NONE_OF_FOUR) {
            CHECK.due("bare(" + x + ", 0)", s.bare(x, 0), -2);
            CHECK.due("bare(0, " + x + ")", s.bare(0, x), -2);
            CHECK.due("bare(" + x + ", " + x + ")", s.bare(x, x), -2);
        }
    }

    // ---- 18: way ----

    static void p18_itself() {
        for (int x = 0; x < 4; x++) wayIs(Check.town(SPENT), 0, x);
    }

    static void p18_noTurnOfTheFirstStreet() {
        wayIs(Check.town(SPENT), 1, 0, 1);
        wayIs(Check.town(SPENT), 9, 2, 1);
    }

    static void p18_aTurnAtEachBetween() {
        SpentTurns s = longest(1);
        wayIs(s, 63, 0, 1, 2, 3, 4, 5, 6, 7);
        for (int y = 1; y < 7; y++) {
            s.take(y - 1, y, y + 1);
            CHECK.due("way(0, 7) without a turn at " + y, s.way(0, 7), -1);
            CHECK.due("way(7, 0) without it", s.way(7, 0), 63);
            s.undo();
        }
    }

    static void p18_theLastUse() {
        SpentTurns s = Check.town(PLENTY);
        s.take(0, 1, 2);
        CHECK.due("way(0, 2) with one left", s.way(0, 2), 10);
        s.take(0, 1, 2);
        CHECK.due("way(0, 2) with none left", s.way(0, 2), -1);
        s.give(0, 1, 2);
        CHECK.due("way(0, 2) with one given", s.way(0, 2), 10);
    }

    static void p18_shortestAheadOfFewestStreets() {
        wayIs(Check.town("town crossings 4 uses 1 half 0;street 0 3 4;street 0 1 1;street 1 2 1;street 2 3 1;"), 3, 0, 1, 2, 3);
    }

    static void p18_fewestStreetsAheadOfTheLeastRow() {
        SpentTurns s = Check.town("town crossings 5 uses 1 half 0;street 0 1 1;street 1 2 1;street 2 3 1;street 0 4 1;street 4 3 2;");
        wayIs(s, 3, 0, 4, 3);
    }

    static void p18_theLeastRow() {
        SpentTurns s = Check.town("town crossings 5 uses 1 half 0;street 0 3 1;street 3 4 1;street 0 2 1;street 2 4 1;street 0 1 1;street 1 4 1;");
        wayIs(s, 2, 0, 1, 4);
        wayIs(s, 2, 4, 1, 0);
        s.take(0, 1, 4);
        wayIs(s, 2, 0, 2, 4);
    }

    static void p18_theLeastRowThatPartsLate() {
        SpentTurns s = Check.town("town crossings 6 uses 1 half 0;street 0 5 1;street 5 1 2;street 5 2 1;street 1 4 1;street 2 4 2;");
        wayIs(s, 4, 0, 5, 1, 4);
    }

    static void p18_oneCrossingTwice() {
        SpentTurns s = Check.town("town crossings 4 uses 1 half 1;street 0 1 1;street 1 2 1;street 1 3 9;turn 0 1 2 uses 0;");
        wayIs(s, 20, 0, 1, 3, 1, 2);
        s.take(1, 3, 1);
        CHECK.due("way(0, 2) without the half turn", s.way(0, 2), -1);
    }

    static void p18_thereIsNone() {
        CHECK.due("way(0, 3)", Check.town(PLENTY).way(0, 3), -1);
        CHECK.due("way(3, 0)", Check.town(PLENTY).way(3, 0), -1);
    }

    static void p18_noneSuch() {
        SpentTurns s = Check.town(PLENTY);
        for (int x : NONE_OF_FOUR) {
            CHECK.due("way(" + x + ", 0)", s.way(x, 0), -2);
            CHECK.due("way(0, " + x + ")", s.way(0, x), -2);
            CHECK.due("way(" + x + ", " + x + ")", s.way(x, x), -2);
        }
    }

    static void p18_takesNothing() {
        SpentTurns s = Check.town(PLENTY);
        CHECK.stays(s, "way(0, 2)", () -> s.way(0, 2), 10);
    }

    // ---- 19: stop ----

    static void p19_firstAndLast() {
        SpentTurns s = longest(1);
        CHECK.due("stop(0, 7, 0)", s.stop(0, 7, 0), 0);
        CHECK.due("stop(0, 7, 7)", s.stop(0, 7, 7), 7);
        CHECK.due("stop(0, 7, 8)", s.stop(0, 7, 8), -1);
        CHECK.due("stop(0, 7, -1)", s.stop(0, 7, -1), -1);
    }

    static void p19_itself() {
        SpentTurns s = Check.town(SPENT);
        CHECK.due("stop(3, 3, 0)", s.stop(3, 3, 0), 3);
        CHECK.due("stop(3, 3, 1)", s.stop(3, 3, 1), -1);
        CHECK.due("stop(3, 3, -1)", s.stop(3, 3, -1), -1);
    }

    static void p19_noSuchPlace() {
        SpentTurns s = Check.town(PLENTY);
        CHECK.due("stop(0, 2, 3)", s.stop(0, 2, 3), -1);
        for (int i : NO_PLACE) CHECK.due("stop(0, 2, " + i + ")", s.stop(0, 2, i), -1);
    }

    static void p19_noWay() {
        SpentTurns s = Check.town(SPENT);
        for (int i = 0; i < 4; i++) {
            CHECK.due("stop(0, 2, " + i + ")", s.stop(0, 2, i), -1);
            CHECK.due("stop(0, 3, " + i + ")", s.stop(0, 3, i), -1);
        }
    }

    static void p19_noneSuch() {
        SpentTurns s = Check.town(PLENTY);
        for (int x : NONE_OF_FOUR)
            for (int i = -1; i < 2; i++) {
                CHECK.due("stop(" + x + ", 0, " + i + ")", s.stop(x, 0, i), -2);
                CHECK.due("stop(0, " + x + ", " + i + ")", s.stop(0, x, i), -2);
                CHECK.due("stop(" + x + ", " + x + ", " + i + ")", s.stop(x, x, i), -2);
            }
    }

    // ---- 20: streets ----

    static void p20_itself() {
        CHECK.due("streets(3, 3)", Check.town(SPENT).streets(3, 3), 0);
    }

    static void p20_one() {
        CHECK.due("streets(0, 1)", Check.town(SPENT).streets(0, 1), 1);
    }

    static void p20_seven() {
        CHECK.due("streets(0, 7)", longest(1).streets(0, 7), 7);
    }

    static void p20_thereIsNone() {
        CHECK.due("streets(0, 2)", Check.town(SPENT).streets(0, 2), -1);
        CHECK.due("streets(0, 3)", Check.town(PLENTY).streets(0, 3), -1);
    }

    static void p20_noneSuch() {
        SpentTurns s = Check.town(PLENTY);
        for (int x : NONE_OF_FOUR) {
            CHECK.due("streets(" + x + ", 0)", s.streets(x, 0), -2);
            CHECK.due("streets(0, " + x + ")", s.streets(0, x), -2);
            CHECK.due("streets(" + x + ", " + x + ")", s.streets(x, x), -2);
        }
    }

    // ---- 21 to 23: buy, bought, lane ----

    static void p21_itself() {
        for (int x = 0; x < 4; x++) laneIs(Check.town(SPENT), 0, 0, x);
    }

    static void p21_nothingToBuy() {
        laneIs(Check.town(PLENTY), 0, 10, 0, 1, 2);
        laneIs(Check.town(SPENT), 0, 1, 0, 1);
    }

    static void p21_eachTurnOfTheWay() {
        laneIs(longest(0), 6, 63, 0, 1, 2, 3, 4, 5, 6, 7);
    }

    static void p21_thereIsNone() {
        CHECK.due("buy(0, 3)", Check.town(PLENTY).buy(0, 3), -1);
        CHECK.due("buy(3, 0)", Check.town(PLENTY).buy(3, 0), -1);
    }

    static void p21_noneSuch() {
        SpentTurns s = Check.town(PLENTY);
        for (int x : NONE_OF_FOUR) {
            CHECK.due("buy(" + x + ", 0)", s.buy(x, 0), -2);
            CHECK.due("buy(0, " + x + ")", s.buy(0, x), -2);
            CHECK.due("buy(" + x + ", " + x + ")", s.buy(x, x), -2);
        }
    }

    static void p21_fewestAheadOfTheShortest() {
        SpentTurns s = Check.town("town crossings 5 uses 0 half 0;street 0 1 1;street 1 2 1;street 0 3 9;street 3 4 9;street 4 2 9;"
                + "turn 0 3 4 uses 1;turn 3 4 2 uses 1;");
        laneIs(s, 0, 27, 0, 3, 4, 2);
        s.take(3, 4, 2);
        laneIs(s, 1, 2, 0, 1, 2);
    }

    static void p21_takesAndBuysNothing() {
        SpentTurns s = Check.town(SPENT);
        CHECK.stays(s, "buy(0, 2)", () -> s.buy(0, 2), 1);
        CHECK.stays(s, "bought(0, 2)", () -> s.bought(0, 2), 10);
        CHECK.stays(s, "lane(0, 2, 2)", () -> s.lane(0, 2, 2), 2);
    }

    static void p22_itself() {
        CHECK.due("bought(3, 3)", Check.town(SPENT).bought(3, 3), 0);
    }

    static void p22_shortestAheadOfFewestStreets() {
        SpentTurns s = Check.town("town crossings 5 uses 0 half 0;street 0 1 1;street 1 2 1;street 2 4 1;street 0 3 2;street 3 4 2;turn 0 1 2 uses 1;");
        laneIs(s, 1, 3, 0, 1, 2, 4);
    }

    static void p22_longerThanTheWayIs() {
        CHECK.due("bought(0, 7)", longest(0).bought(0, 7), 63);
        CHECK.due("way(0, 7)", longest(0).way(0, 7), -1);
    }

    static void p22_thereIsNone() {
        CHECK.due("bought(0, 3)", Check.town(PLENTY).bought(0, 3), -1);
    }

    static void p22_noneSuch() {
        SpentTurns s = Check.town(PLENTY);
        for (int x : NONE_OF_FOUR) {
            CHECK.due("bought(" + x + ", 0)", s.bought(x, 0), -2);
            CHECK.due("bought(0, " + x + ")", s.bought(0, x), -2);
            CHECK.due("bought(" + x + ", " + x + ")", s.bought(x, x), -2);
        }
    }

    static void p23_fewestStreetsAheadOfTheLeastRow() {
        SpentTurns s = Check.town("town crossings 5 uses 0 half 0;street 0 1 1;street 1 2 1;street 2 4 1;street 0 3 1;street 3 4 2;turn 0 1 2 uses 1;");
        laneIs(s, 1, 3, 0, 3, 4);
    }

    static void p23_theLeastRow() {
        SpentTurns s = Check.town("town crossings 4 uses 0 half 0;street 0 2 1;street 2 3 1;street 0 1 1;street 1 3 1;");
        laneIs(s, 1, 2, 0, 1, 3);
        s.give(0, 2, 3);
        laneIs(s, 0, 2, 0, 2, 3);
    }

    static void p23_itself() {
        SpentTurns s = Check.town(SPENT);
        CHECK.due("lane(3, 3, 0)", s.lane(3, 3, 0), 3);
        CHECK.due("lane(3, 3, 1)", s.lane(3, 3, 1), -1);
        CHECK.due("lane(3, 3, -1)", s.lane(3, 3, -1), -1);
    }

    static void p23_firstAndLast() {
        SpentTurns s = longest(0);
        CHECK.due("lane(7, 0, 0)", s.lane(7, 0, 0), 7);
        CHECK.due("lane(7, 0, 7)", s.lane(7, 0, 7), 0);
        CHECK.due("lane(7, 0, 8)", s.lane(7, 0, 8), -1);
        for (int i : NO_PLACE) CHECK.due("lane(7, 0, " + i + ")", s.lane(7, 0, i), -1);
    }

    static void p23_noWay() {
        for (int i = 0; i < 3; i++) CHECK.due("lane(0, 3, " + i + ")", Check.town(PLENTY).lane(0, 3, i), -1);
    }

    static void p23_noneSuch() {
        SpentTurns s = Check.town(PLENTY);
        for (int x : NONE_OF_FOUR)
            for (int i = -1; i < 2; i++) {
                CHECK.due("lane(" + x + ", 0, " + i + ")", s.lane(x, 0, i), -2);
                CHECK.due("lane(0, " + x + ", " + i + ")", s.lane(0, x, i), -2);
                CHECK.due("lane(" + x + ", " + x + ", " + i + ")", s.lane(x, x, i), -2);
            }
    }

    // ---- 24: reach ----

    static void p24_itselfAlone() {
        CHECK.due("reach(3)", Check.town(PLENTY).reach(3), 0b1000);
    }

    static void p24_withoutAnyTurn() {
        CHECK.due("reach(0)", Check.town(SPENT).reach(0), 0b0011);
        CHECK.due("reach(1)", Check.town(SPENT).reach(1), 0b0111);
    }

    static void p24_all() {
        for (int x = 0; x < 8; x++) CHECK.due("reach(" + x + ")", longest(1).reach(x), 255);
    }

    static void p24_allOfAFullTown() {
        // five crossings beside each other, and behind them a row of three
        SpentTurns s = Check.town("town crossings 8 uses 3 half 3;street 0 1 1;street 0 2 1;street 0 3 1;street 0 4 1;street 1 2 1;street 1 3 1;"
                + "street 1 4 1;street 2 3 1;street 2 4 1;street 3 4 1;street 4 5 1;street 5 6 1;street 6 7 1;");
        for (int x = 0; x < 8; x++) CHECK.due("reach(" + x + ")", s.reach(x), 255);
        CHECK.due("shut()", s.shut(), 0);
    }

    static void p24_oneWayAlone() {
        SpentTurns s = Check.town(SPENT + "turn 0 1 2 uses 1;");
        CHECK.due("reach(0)", s.reach(0), 0b0111);
        CHECK.due("reach(2)", s.reach(2), 0b0110);
    }

    static void p24_noneSuch() {
        for (int x : NONE_OF_FOUR) CHECK.due("reach(" + x + ")", Check.town(PLENTY).reach(x), -2);
    }

    // ---- 25: shut ----

    static void p25_none() {
        CHECK.due("shut()", longest(1).shut(), 0);
    }

    static void p25_allPairs() {
        CHECK.due("shut() of eight", Check.town("town crossings 8 uses 1 half 1;").shut(), 56);
        CHECK.due("shut() of two", Check.town("town crossings 2 uses 1 half 1;").shut(), 2);
    }

    static void p25_pairsEachWay() {
        CHECK.due("shut()", Check.town(SPENT).shut(), 2 + 6);
        CHECK.due("shut() with one way", Check.town(SPENT + "turn 0 1 2 uses 1;").shut(), 1 + 6);
    }

    static void p25_noTown() {
        CHECK.due("shut()", new SpentTurns().shut(), -2);
    }

    // ---- 26: key ----

    static void p26_noStreet() {
        CHECK.due("key()", Check.town("town crossings 2 uses 1 half 1;").key(), -1);
    }

    static void p26_noUse() {
        CHECK.due("key()", Check.town(SPENT).key(), -1);
    }

    static void p26_noneMakesAnyMore() {
        CHECK.due("key()", Check.town("town crossings 3 uses 3 half 3;street 0 1 1;street 1 2 1;street 2 0 1;").key(), -1);
    }

    static void p26_mostPairs() {
        SpentTurns s = Check.town("town crossings 5 uses 1 half 0;street 0 1 1;street 1 2 1;street 2 3 1;street 3 4 1;");
        CHECK.due("key()", s.key(), 123);
        CHECK.due("loss(1, 2, 3)", s.loss(1, 2, 3), 4);
    }

    static void p26_leastOfSeveral() {
        CHECK.due("key()", Check.town(PLENTY).key(), 12);
        CHECK.due("key() the other way about", Check.town(SPENT + "turn 2 1 0 uses 1;").key(), 210);
    }

    static void p26_theHighestTurn() {
        CHECK.due("key()", Check.town("town crossings 8 uses 0 half 0;street 7 6 1;street 6 5 1;turn 7 6 5 uses 1;").key(), 765);
    }

    static void p26_theLowestTurn() {
        // from 2 to 3 and back one must turn at 1
        SpentTurns s = Check.town("town crossings 4 uses 1 half 1;street 0 1 1;street 0 2 1;street 0 3 1;turn 2 0 3 uses 0;turn 3 0 2 uses 0;");
        CHECK.due("key()", s.key(), 10);
    }

    static void p26_noTown() {
        CHECK.due("key()", new SpentTurns().key(), -2);
    }

    // ---- 27: loss ----

    static void p27_none() {
        CHECK.due("loss(0, 1, 0)", Check.town(PLENTY).loss(0, 1, 0), 0);
    }

    static void p27_ofNoUseLeft() {
        CHECK.due("loss(0, 1, 2)", Check.town(SPENT).loss(0, 1, 2), 0);
    }

    static void p27_allUsesLeft() {
        CHECK.due("loss(0, 1, 2)", Check.town(SPENT + "turn 0 1 2 uses 9;").loss(0, 1, 2), 1);
    }

    static void p27_pairsMoreAlone() {
        SpentTurns s = longest(1);
        CHECK.due("loss(2, 3, 4)", s.loss(2, 3, 4), 3 * 4);
        s.take(1, 2, 3);
        CHECK.due("loss(2, 3, 4) with pairs shut already", s.loss(2, 3, 4), 4);
    }

    static void p27_noSuchTurn() {
        SpentTurns s = Check.town(PLENTY);
        int[][] none = {{0, 2, 1}, {1, 1, 0}, {1, 0, 2}, {0, 1, 1}, {3, 3, 3}, {0, 3, 0}};
        for (int[] t : none) CHECK.due("loss of no turn", s.loss(t[0], t[1], t[2]), -1);
    }

    static void p27_noSuchCrossings() {
        SpentTurns s = Check.town(PLENTY);
        for (int x : NONE_OF_FOUR) {
            CHECK.due("loss(" + x + ", 1, 2)", s.loss(x, 1, 2), -2);
            CHECK.due("loss(0, " + x + ", 2)", s.loss(0, x, 2), -2);
            CHECK.due("loss(0, 1, " + x + ")", s.loss(0, 1, x), -2);
        }
    }

    static void p27_usesStay() {
        SpentTurns s = Check.town(PLENTY);
        CHECK.stays(s, "loss(0, 1, 2)", () -> s.loss(0, 1, 2), 1);
        CHECK.stays(s, "key()", () -> s.key(), 12);
    }

    // ---- 28: flow ----

    static void p28_straight() {
        CHECK.due("flow(0, 1)", Check.town(PLENTY).flow(0, 1), -1);
        CHECK.due("flow(1, 0)", Check.town(SPENT).flow(1, 0), -1);
    }

    static void p28_none() {
        CHECK.due("flow(0, 2) without uses", Check.town(SPENT).flow(0, 2), 0);
        CHECK.due("flow(0, 3) without streets", Check.town(PLENTY).flow(0, 3), 0);
        CHECK.due("flow(3, 0) without streets", Check.town(PLENTY).flow(3, 0), 0);
    }

    static void p28_asManyAsUsesLeft() {
        SpentTurns s = Check.town(SPENT + "turn 0 1 2 uses 9;");
        CHECK.due("flow(0, 2)", s.flow(0, 2), 9);
        CHECK.due("flow(2, 0)", s.flow(2, 0), 0);
        s.take(0, 1, 2);
        CHECK.due("flow(0, 2) behind take", s.flow(0, 2), 8);
    }

    static void p28_aTurnThatAllTake() {
        SpentTurns s = Check.town("town crossings 5 uses 3 half 0;street 0 1 1;street 0 2 1;street 1 3 1;street 2 3 1;street 3 4 1;");
        // 1 3 4 and 2 3 4 are turns of their own, so both go on
        CHECK.due("flow(0, 4)", s.flow(0, 4), 6);
        s.take(2, 3, 4);
        CHECK.due("flow(0, 4) with one less", s.flow(0, 4), 5);
    }

    /** Six ways by one crossing each, with nine uses each. */
    private static SpentTurns sixWays() {
        StringBuilder text = new StringBuilder("town crossings 8 uses 0 half 0;");
        for (int y = 1; y < 7; y++) text.append("street 0 " + y + " 1;street " + y + " 7 1;turn 0 " + y + " 7 uses 9;");
        return Check.town(text.toString());
    }

    static void p28_most() {
        CHECK.due("flow(0, 7)", sixWays().flow(0, 7), 54);
    }

    /** Who goes by 1 2 3 at first must go by 1 2 4 then, so that another can go by 6 2 3. */
    private static SpentTurns crossed(int uses) {
        StringBuilder text = new StringBuilder("town crossings 8 uses 0 half 0;street 0 1 1;street 1 2 1;street 2 3 1;street 3 7 1;"
                + "street 2 4 1;street 4 5 1;street 5 7 1;street 0 6 1;street 6 2 1;");
        for (String turn : new String[] {"0 1 2", "1 2 3", "2 3 7", "1 2 4", "2 4 5", "4 5 7", "0 6 2", "6 2 3"})
            text.append("turn " + turn + " uses " + uses + ";");
        return Check.town(text.toString());
    }

    static void p28_oneGivesWayToAnother() {
        for (int uses = 0; uses <= 9; uses++) CHECK.due("flow(0, 7)", crossed(uses).flow(0, 7), 2 * uses);
        SpentTurns s = crossed(5);
        s.take(6, 2, 3);
        s.take(6, 2, 3);
        CHECK.due("flow(0, 7) with two less", s.flow(0, 7), 5 + 3);
    }

    /** Three go straight on at 4; of two by 0 2 none may go on by 2 4 1 in the end, which one by 4 2 needs. */
    private static SpentTurns givenWay() {
        return Check.town("town crossings 5 uses 0 half 0;street 4 2 1;street 2 0 1;street 3 0 1;street 4 1 1;street 0 4 1;street 4 3 1;"
                + "turn 3 4 1 uses 3;turn 2 4 1 uses 1;turn 3 4 2 uses 2;turn 0 2 4 uses 3;turn 0 4 1 uses 3;turn 3 0 2 uses 2;"
                + "turn 0 2 0 uses 3;turn 4 2 4 uses 3;turn 2 0 4 uses 3;");
    }

    static void p28_whoGaveWayTakesItNoMore() {
        CHECK.due("flow(3, 1)", givenWay().flow(3, 1), 3 + 2 + 1);
    }

    static void p28_oneTwice() {
        for (int x = 0; x < 4; x++) CHECK.due("flow", Check.town(PLENTY).flow(x, x), -2);
    }

    static void p28_noneSuch() {
        SpentTurns s = Check.town(PLENTY);
        for (int x : NONE_OF_FOUR) {
            CHECK.due("flow(" + x + ", 0)", s.flow(x, 0), -2);
            CHECK.due("flow(0, " + x + ")", s.flow(0, x), -2);
        }
    }

    static void p28_takesNothing() {
        SpentTurns s = sixWays();
        CHECK.stays(s, "flow(0, 7)", () -> s.flow(0, 7), 54);
    }

    // ---- 29: cut ----

    static void p29_straight() {
        CHECK.due("cut(0, 1)", Check.town(PLENTY).cut(0, 1), -1);
    }

    static void p29_none() {
        CHECK.due("cut(0, 2)", Check.town(SPENT).cut(0, 2), 0);
        CHECK.due("cut(0, 3)", Check.town(PLENTY).cut(0, 3), 0);
    }

    static void p29_most() {
        CHECK.due("cut(0, 7)", sixWays().cut(0, 7), 6);
    }

    static void p29_turnsWithAUseLeftAlone() {
        SpentTurns s = sixWays();
        for (int i = 0; i < 9; i++) s.take(0, 3, 7);
        CHECK.due("cut(0, 7)", s.cut(0, 7), 5);
        CHECK.due("wall(0, 7, 2)", s.wall(0, 7, 2), 47);
    }

    static void p29_nearestToTheFirst() {
        SpentTurns s = longest(1);
        CHECK.due("cut(0, 7)", s.cut(0, 7), 1);
        CHECK.due("wall(0, 7, 0)", s.wall(0, 7, 0), 12);
        CHECK.due("wall(7, 0, 0)", s.wall(7, 0, 0), 765);
        s.give(0, 1, 2);
        CHECK.due("wall(0, 7, 0) behind give", s.wall(0, 7, 0), 123);
    }

    static void p29_whereOneGivesWayToAnother() {
        SpentTurns s = crossed(5);
        CHECK.due("cut(0, 7)", s.cut(0, 7), 2);
        CHECK.due("wall(0, 7, 0)", s.wall(0, 7, 0), 12);
        CHECK.due("wall(0, 7, 1)", s.wall(0, 7, 1), 62);
        s.take(2, 3, 7);
        s.take(2, 4, 5);
        CHECK.due("cut(0, 7) farther on", s.cut(0, 7), 2);
        CHECK.due("wall(0, 7, 0) farther on", s.wall(0, 7, 0), 237);
        CHECK.due("wall(0, 7, 1) farther on", s.wall(0, 7, 1), 245);
    }

    static void p29_whereOneGaveWay() {
        int[] due = {241, 302, 341};
        CHECK.due("cut(3, 1)", givenWay().cut(3, 1), 3);
        for (int i = 0; i < 3; i++) CHECK.due("wall(3, 1, " + i + ")", givenWay().wall(3, 1, i), due[i]);
    }

    static void p29_asManyUsesTogether() {
        SpentTurns s = crossed(5);
        s.take(2, 3, 7);
        s.take(4, 5, 7);
        int sum = 0;
        for (int i = 0; i < s.cut(0, 7); i++) {
            int turn = s.wall(0, 7, i);
            sum += s.left(turn / 100, turn / 10 % 10, turn % 10);
        }
        CHECK.due("uses of the cut", sum, s.flow(0, 7));
        CHECK.due("flow(0, 7)", s.flow(0, 7), 8);
    }

    static void p29_oneTwice() {
        CHECK.due("cut(2, 2)", Check.town(PLENTY).cut(2, 2), -2);
    }

    static void p29_noneSuch() {
        SpentTurns s = Check.town(PLENTY);
        for (int x : NONE_OF_FOUR) {
            CHECK.due("cut(" + x + ", 0)", s.cut(x, 0), -2);
            CHECK.due("cut(0, " + x + ")", s.cut(0, x), -2);
        }
    }

    // ---- 30: wall ----

    static void p30_inOrder() {
        SpentTurns s = sixWays();
        for (int i = 0; i < 6; i++) CHECK.due("wall(0, 7, " + i + ")", s.wall(0, 7, i), 10 * (i + 1) + 7);
        CHECK.due("wall(0, 7, 6)", s.wall(0, 7, 6), -1);
    }

    static void p30_theLowestTurn() {
        SpentTurns s = Check.town("town crossings 4 uses 0 half 0;street 0 1 1;street 0 2 1;street 0 3 1;turn 2 0 1 uses 9;turn 0 1 0 uses 2;turn 1 0 3 uses 9;");
        CHECK.due("flow(2, 3)", s.flow(2, 3), 2);
        CHECK.due("cut(2, 3)", s.cut(2, 3), 1);
        CHECK.due("wall(2, 3, 0)", s.wall(2, 3, 0), 10);
    }

    static void p30_noneSuch() {
        SpentTurns s = sixWays();
        for (int i : new int[] {-1, 6, 7, LOWEST, HIGHEST}) CHECK.due("wall(0, 7, " + i + ")", s.wall(0, 7, i), -1);
    }

    static void p30_noneAtAll() {
        CHECK.due("wall(0, 2, 0)", Check.town(SPENT).wall(0, 2, 0), -1);
        CHECK.due("wall(0, 3, 0)", Check.town(PLENTY).wall(0, 3, 0), -1);
    }

    static void p30_straight() {
        CHECK.due("wall(0, 1, 0)", Check.town(PLENTY).wall(0, 1, 0), -1);
    }

    static void p30_oneTwice() {
        for (int i = -1; i < 2; i++) CHECK.due("wall(2, 2, " + i + ")", Check.town(PLENTY).wall(2, 2, i), -2);
    }

    static void p30_noSuchCrossings() {
        SpentTurns s = Check.town(PLENTY);
        for (int x : NONE_OF_FOUR)
            for (int i = -1; i < 2; i++) {
                CHECK.due("wall(" + x + ", 0, " + i + ")", s.wall(x, 0, i), -2);
                CHECK.due("wall(0, " + x + ", " + i + ")", s.wall(0, x, i), -2);
            }
    }
}
