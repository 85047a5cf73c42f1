/** Promises 31 to 42 and terms IV: each boundary that a sentence names, in a test of its own. */
public final class EdgeDayTest {
    private static final Check CHECK = new Check("EdgeDayTest");
    private static final int LOWEST = Integer.MIN_VALUE;
    private static final int HIGHEST = Integer.MAX_VALUE;
    private static final int[] NONE_OF_FOUR = {-1, 4, 7, 8, 64, LOWEST, HIGHEST};
    private static final int[][] NO_TURNS = {{0, 2, 1}, {1, 1, 0}, {1, 0, 2}, {0, 1, 1}, {3, 3, 3}, {0, 3, 0}};
    /** One use alone, by which one errand can go from 0 to 2. */
    private static final String ONE = "town crossings 4 uses 0 half 0;street 0 1 1;street 1 2 1;turn 0 1 2 uses 1;";
    /** Who goes first from 0 to 3 takes the way that is the only one from 1 to 3, and has another himself. */
    private static final String CROWDED = "town crossings 5 uses 0 half 0;street 0 1 1;street 1 2 1;street 2 3 1;street 0 4 4;street 4 3 4;"
            + "turn 0 1 2 uses 1;turn 1 2 3 uses 1;turn 0 4 3 uses 1;";
    /** Two errands that both get there in either order, but not by ways of one length. */
    private static final String DETOURS = "town crossings 6 uses 0 half 0;street 0 1 3;street 1 2 1;street 2 3 1;street 1 4 5;street 4 3 5;"
            + "street 0 5 3;street 5 3 3;turn 0 1 2 uses 1;turn 1 2 3 uses 1;turn 1 4 3 uses 1;turn 0 5 3 uses 1;";

    public static void main(String[] args) {
        CHECK.all(EdgeDayTest.class);
        CHECK.close();
    }

    // ---- 31: day ----

    static void p31_noErrand() {
        CHECK.due("day()", Check.town(ONE).day(), 0);
    }

    static void p31_allOfSix() {
        CHECK.due("day()", Check.town(ONE + "errand 0 1 at 3;".repeat(6)).day(), 6);
    }

    static void p31_noneOfSix() {
        CHECK.due("day()", Check.town(ONE + "errand 2 0 at 3;".repeat(6)).day(), 0);
    }

    static void p31_fromTheFirstHourToTheLast() {
        SpentTurns s = Check.town(ONE + "errand 0 2 at 23;errand 0 2 at 0;");
        CHECK.due("day()", s.day(), 1);
        CHECK.due("goes(0)", s.goes(0), -1);
        CHECK.due("goes(1)", s.goes(1), 2);
    }

    static void p31_ofOneHourByNumbers() {
        SpentTurns s = Check.town(ONE + "errand 0 2 at 23;errand 0 2 at 23;");
        CHECK.due("goes(0)", s.goes(0), 2);
        CHECK.due("goes(1)", s.goes(1), -1);
    }

    static void p31_byUsesThatAreLeftNow() {
        SpentTurns s = Check.town(ONE + "errand 0 2 at 5;errand 0 2 at 5;");
        s.give(0, 1, 2);
        CHECK.due("day() with two", s.day(), 2);
        s.take(0, 1, 2);
        s.take(0, 1, 2);
        CHECK.due("day() with none", s.day(), 0);
    }

    static void p31_whoFailsTakesNothing() {
        // 3 to 2 by 0 1 fails for want of 3 0 1, and leaves 0 1 2 to the next
        SpentTurns s = Check.town(ONE + "street 3 0 1;errand 3 2 at 1;errand 0 2 at 2;");
        CHECK.due("goes(0)", s.goes(0), -1);
        CHECK.due("goes(1)", s.goes(1), 2);
    }

    static void p31_theFirstWay() {
        // of one length by 1 or by 2: he goes by 1, so that the next can't
        SpentTurns s = Check.town("town crossings 5 uses 0 half 0;street 0 1 1;street 0 2 1;street 1 3 1;street 2 3 1;street 3 4 1;"
                + "turn 0 1 3 uses 1;turn 0 2 3 uses 1;turn 1 3 4 uses 1;errand 0 3 at 1;errand 0 4 at 2;");
        CHECK.due("goes(0)", s.goes(0), 2);
        CHECK.due("goes(1)", s.goes(1), -1);
    }

    static void p31_allIsAsAheadOfIt() {
        SpentTurns s = Check.town(ONE + "errand 0 2 at 5;errand 0 2 at 5;");
        CHECK.stays(s, "day()", () -> s.day(), 1);
        CHECK.stays(s, "day() again", () -> s.day(), 1);
    }

    static void p31_noTown() {
        CHECK.due("day()", new SpentTurns().day(), -2);
    }

    // ---- 32: goes ----

    static void p32_oneStreet() {
        CHECK.due("goes(0)", Check.town(ONE + "errand 1 0 at 5;").goes(0), 1);
    }

    static void p32_itFails() {
        CHECK.due("goes(0)", Check.town(ONE + "errand 0 3 at 5;").goes(0), -1);
    }

    static void p32_noneSuch() {
        SpentTurns s = Check.town(ONE + "errand 0 2 at 5;");
        for (int e : new int[] {-1, 1, 5, 6, LOWEST, HIGHEST}) CHECK.due("goes(" + e + ")", s.goes(e), -2);
        CHECK.due("goes(0) without errands", Check.town(ONE).goes(0), -2);
        CHECK.due("goes(0) without a town", new SpentTurns().goes(0), -2);
    }

    static void p32_theSixth() {
        SpentTurns s = Check.town(ONE + "errand 0 1 at 3;".repeat(5) + "errand 0 2 at 23;");
        CHECK.due("goes(5)", s.goes(5), 2);
        CHECK.due("goes(6)", s.goes(6), -2);
    }

    // ---- 33: fails ----

    static void p33_noneDoes() {
        CHECK.due("fails()", Check.town(ONE + "errand 0 2 at 5;").fails(), -1);
        CHECK.due("fails() without errands", Check.town(ONE).fails(), -1);
    }

    static void p33_firstByHours() {
        CHECK.due("fails()", Check.town(ONE + "errand 2 0 at 23;errand 2 0 at 1;errand 2 0 at 0;").fails(), 2);
    }

    static void p33_ofOneHourByNumbers() {
        CHECK.due("fails()", Check.town(ONE + "errand 0 2 at 9;errand 2 0 at 8;errand 2 0 at 8;").fails(), 1);
    }

    static void p33_theErrandZero() {
        CHECK.due("fails()", Check.town(ONE + "errand 2 0 at 9;").fails(), 0);
    }

    static void p33_noTown() {
        CHECK.due("fails()", new SpentTurns().fails(), -2);
    }

    // ---- 34: dusk ----

    static void p34_none() {
        CHECK.due("dusk()", Check.town(ONE + "errand 0 2 at 5;").dusk(), 0);
    }

    static void p34_noErrand() {
        CHECK.due("dusk()", Check.town(ONE).dusk(), 1);
    }

    static void p34_errandsOfOneStreet() {
        CHECK.due("dusk()", Check.town(ONE + "errand 0 1 at 5;errand 1 2 at 5;").dusk(), 1);
    }

    static void p34_errandsThatFail() {
        CHECK.due("dusk()", Check.town(ONE + "errand 2 0 at 5;errand 0 3 at 5;").dusk(), 1);
    }

    static void p34_noTown() {
        CHECK.due("dusk()", new SpentTurns().dusk(), -2);
    }

    // ---- 35: spent ----

    static void p35_noneLeft() {
        CHECK.due("spent(0, 1, 2)", Check.town(ONE + "errand 0 2 at 5;").spent(0, 1, 2), 0);
    }

    static void p35_allLeft() {
        CHECK.due("spent(0, 1, 2)", Check.town(ONE).spent(0, 1, 2), 1);
        CHECK.due("spent(0, 1, 2) of nine", Check.town(ONE + "turn 0 1 2 uses 9;").spent(0, 1, 2), 9);
    }

    static void p35_byUsesThatAreLeftNow() {
        SpentTurns s = Check.town(ONE + "errand 0 2 at 5;");
        s.give(0, 1, 2);
        s.give(0, 1, 2);
        CHECK.stays(s, "spent(0, 1, 2)", () -> s.spent(0, 1, 2), 2);
    }

    static void p35_noneSuch() {
        for (int[] t : NO_TURNS) CHECK.due("spent of no turn", Check.town(ONE).spent(t[0], t[1], t[2]), -1);
    }

    static void p35_noSuchCrossings() {
        SpentTurns s = Check.town(ONE);
        for (int x : NONE_OF_FOUR) {
            CHECK.due("spent(" + x + ", 1, 2)", s.spent(x, 1, 2), -2);
            CHECK.due("spent(0, " + x + ", 2)", s.spent(0, x, 2), -2);
            CHECK.due("spent(0, 1, " + x + ")", s.spent(0, 1, x), -2);
        }
    }

    // ---- 36: dawn ----

    static void p36_noErrand() {
        CHECK.due("dawn()", Check.town(ONE).dawn(), 0);
    }

    static void p36_noneOfSix() {
        CHECK.due("dawn()", Check.town(ONE + "errand 2 0 at 3;".repeat(6)).dawn(), 0);
    }

    static void p36_allOfSix() {
        CHECK.due("dawn()", Check.town(ONE + "errand 0 1 at 3;".repeat(6)).dawn(), 6);
    }

    static void p36_whateverHours() {
        SpentTurns s = Check.town(CROWDED + "errand 0 3 at 0;errand 1 3 at 23;");
        CHECK.due("day()", s.day(), 1);
        CHECK.due("dawn()", s.dawn(), 2);
    }

    static void p36_asADayThatIsTheBest() {
        SpentTurns s = Check.town(CROWDED + "errand 0 3 at 23;errand 1 3 at 0;");
        CHECK.due("day()", s.day(), 2);
        CHECK.due("dawn()", s.dawn(), 2);
    }

    static void p36_allIsAsAheadOfIt() {
        SpentTurns s = Check.town(CROWDED + "errand 0 3 at 0;errand 1 3 at 23;");
        CHECK.stays(s, "dawn()", () -> s.dawn(), 2);
        CHECK.stays(s, "least()", () -> s.least(), 10);
    }

    static void p36_byUsesThatAreLeftNow() {
        SpentTurns s = Check.town(CROWDED + "errand 0 3 at 0;errand 1 3 at 23;");
        CHECK.due("dawn()", s.dawn(), 2);
        s.take(0, 4, 3);
        CHECK.due("dawn() behind take", s.dawn(), 1);
        s.undo();
        CHECK.due("dawn() behind undo", s.dawn(), 2);
    }

    static void p36_behindEachChange() {
        SpentTurns s = Check.town(CROWDED + "errand 0 3 at 0;errand 1 3 at 23;");
        CHECK.due("dawn()", s.dawn(), 2);
        s.law(0, 4, 3, 0);
        CHECK.due("dawn() behind law", s.dawn(), 1);
        s.keep(0);
        s.build(1, 3, 1);
        CHECK.due("dawn() behind build", s.dawn(), 2);
        s.back(0);
        CHECK.due("dawn() behind back", s.dawn(), 1);
        s.send(1, 4, 3, 0);
        CHECK.due("dawn() behind send", s.dawn(), 2);
        s.take(0, 1, 2);
        CHECK.due("dawn() behind take", s.dawn(), 1);
        s.anew();
        CHECK.due("dawn() behind anew", s.dawn(), 2);
        s.take(0, 1, 2);
        s.dawn();
        s.give(0, 1, 2);
        CHECK.due("dawn() behind give", s.dawn(), 2);
        s.undo();
        CHECK.due("dawn() behind undo", s.dawn(), 1);
        Check.tape(s, ONE + "errand 0 2 at 0;errand 1 2 at 0;errand 0 1 at 0;");
        s.town();
        CHECK.due("dawn() behind town", s.dawn(), 3);
    }

    static void p36_noTown() {
        CHECK.due("dawn()", new SpentTurns().dawn(), -2);
    }

    static void p36_noTownAnyMore() {
        SpentTurns s = Check.town(CROWDED + "errand 0 3 at 0;errand 1 3 at 23;");
        s.dawn();
        s.town();
        CHECK.due("dawn()", s.dawn(), -2);
        CHECK.due("first(0)", s.first(0), -2);
        CHECK.due("least()", s.least(), -2);
    }

    // ---- 37: first ----

    static void p37_theLeastRow() {
        SpentTurns s = Check.town(ONE + "errand 0 1 at 5;errand 0 1 at 4;errand 0 1 at 3;errand 0 1 at 2;errand 0 1 at 1;errand 0 1 at 0;");
        for (int i = 0; i < 6; i++) CHECK.due("first(" + i + ")", s.first(i), i);
        CHECK.due("first(6)", s.first(6), -1);
    }

    static void p37_thoseThatFailStandInItToo() {
        SpentTurns s = Check.town(ONE + "errand 2 0 at 0;errand 0 2 at 0;errand 0 2 at 0;");
        CHECK.due("dawn()", s.dawn(), 1);
        for (int i = 0; i < 3; i++) CHECK.due("first(" + i + ")", s.first(i), i);
    }

    static void p37_theFirstThatDoesMost() {
        SpentTurns s = Check.town(CROWDED + "errand 0 3 at 0;errand 1 3 at 23;errand 0 1 at 0;");
        int[] due = {1, 0, 2};
        for (int i = 0; i < 3; i++) CHECK.due("first(" + i + ")", s.first(i), due[i]);
    }

    static void p37_noneSuch() {
        SpentTurns s = Check.town(ONE + "errand 0 2 at 0;errand 0 2 at 0;");
        for (int i : new int[] {-1, 2, 5, 6, LOWEST, HIGHEST}) CHECK.due("first(" + i + ")", s.first(i), -1);
    }

    static void p37_noErrand() {
        CHECK.due("first(0)", Check.town(ONE).first(0), -1);
    }

    static void p37_noTown() {
        for (int i = -1; i < 2; i++) CHECK.due("first(" + i + ")", new SpentTurns().first(i), -2);
    }

    // ---- 38: least ----

    static void p38_noneIsDone() {
        CHECK.due("least()", Check.town(ONE + "errand 2 0 at 3;".repeat(6)).least(), 0);
        CHECK.due("least() without errands", Check.town(ONE).least(), 0);
    }

    static void p38_notOfTheFirstOrder() {
        SpentTurns s = Check.town(DETOURS + "errand 0 3 at 0;errand 1 3 at 0;");
        CHECK.due("dawn()", s.dawn(), 2);
        CHECK.due("first(0)", s.first(0), 0);
        CHECK.due("goes(0)", s.goes(0), 5);
        CHECK.due("goes(1)", s.goes(1), 10);
        CHECK.due("least()", s.least(), 2 + 6);
    }

    static void p38_ofTheFirstOrder() {
        CHECK.due("least()", Check.town(DETOURS + "errand 1 3 at 0;errand 0 3 at 0;").least(), 2 + 6);
    }

    static void p38_notOfOrdersThatDoFewer() {
        CHECK.due("least()", Check.town(CROWDED + "errand 0 3 at 0;errand 1 3 at 0;").least(), 2 + 8);
        CHECK.due("least() the other way about", Check.town(CROWDED + "errand 1 3 at 0;errand 0 3 at 0;").least(), 2 + 8);
    }

    static void p38_ofOneOrAnother() {
        // one of the two alone can be done
        SpentTurns s = Check.town(ONE + "street 0 3 9;errand 3 2 at 0;errand 0 2 at 0;turn 3 0 1 uses 1;");
        CHECK.due("dawn()", s.dawn(), 1);
        CHECK.due("least()", s.least(), 2);
    }

    static void p38_noTown() {
        CHECK.due("least()", new SpentTurns().least(), -2);
    }

    // ---- 39: spares ----

    private static final String INNER = "town crossings 4 uses 0 half 0;street 0 1 1;street 1 2 1;street 2 3 1;turn 0 1 2 uses 1;turn 1 2 3 uses 1;";

    static void p39_more() {
        CHECK.due("spares(0)", Check.town(INNER + "errand 0 3 at 1;errand 0 2 at 2;errand 1 3 at 3;").spares(0), 1);
    }

    static void p39_asMany() {
        SpentTurns s = Check.town(INNER + "errand 0 3 at 1;errand 0 2 at 2;");
        CHECK.due("spares(0)", s.spares(0), 0);
        CHECK.due("spares(1)", s.spares(1), 0);
    }

    static void p39_fewer() {
        CHECK.due("spares(0)", Check.town(INNER + "errand 0 3 at 1;").spares(0), -1);
    }

    static void p39_most() {
        String five = "errand 0 2 at 1;errand 1 3 at 1;errand 2 4 at 1;errand 3 5 at 1;errand 4 6 at 1;";
        SpentTurns s = Check.town("town crossings 7 uses 1 half 0;street 0 1 1;street 1 2 1;street 2 3 1;street 3 4 1;street 4 5 1;street 5 6 1;"
                + "errand 0 6 at 0;" + five);
        CHECK.due("spares(0)", s.spares(0), 4);
    }

    static void p39_noneSuch() {
        SpentTurns s = Check.town(ONE + "errand 0 2 at 0;");
        for (int e : new int[] {-1, 1, 5, 6, LOWEST, HIGHEST}) CHECK.due("spares(" + e + ")", s.spares(e), -100);
        CHECK.due("spares(0) without errands", Check.town(ONE).spares(0), -100);
        CHECK.due("spares(0) without a town", new SpentTurns().spares(0), -100);
    }

    static void p39_theErrandStays() {
        SpentTurns s = Check.town(INNER + "errand 0 3 at 1;errand 0 2 at 2;errand 1 3 at 3;");
        CHECK.stays(s, "spares(0)", () -> s.spares(0), 1);
        CHECK.due("day()", s.day(), 1);
    }

    // ---- 40: demand ----

    static void p40_none() {
        CHECK.due("demand(0, 1, 2)", Check.town(ONE).demand(0, 1, 2), 0);
        CHECK.due("demand(0, 1, 0)", Check.town(ONE + "errand 0 2 at 0;").demand(0, 1, 0), 0);
    }

    static void p40_allEachAlone() {
        CHECK.due("demand(0, 1, 2)", Check.town(ONE + "errand 0 2 at 3;".repeat(6)).demand(0, 1, 2), 6);
    }

    static void p40_asItIsNow() {
        SpentTurns s = Check.town(ONE + "errand 0 2 at 3;");
        s.take(0, 1, 2);
        CHECK.due("demand(0, 1, 2) of no way", s.demand(0, 1, 2), 0);
        s.give(0, 1, 2);
        CHECK.stays(s, "demand(0, 1, 2)", () -> s.demand(0, 1, 2), 1);
    }

    static void p40_behindOtherCalls() {
        SpentTurns s = Check.town(ONE + "errand 0 2 at 3;");
        s.wide(0, 8);
        s.loss(0, 1, 0);
        CHECK.due("demand(0, 1, 2)", s.demand(0, 1, 2), 1);
        CHECK.due("demand(0, 1, 2) again", s.demand(0, 1, 2), 1);
        s.wide(0, 8);
        CHECK.due("dearest()", s.dearest(), 12);
        CHECK.due("demand(0, 1, 0)", s.demand(0, 1, 0), 0);
    }

    static void p40_noneSuch() {
        for (int[] t : NO_TURNS) CHECK.due("demand of no turn", Check.town(ONE).demand(t[0], t[1], t[2]), -1);
    }

    static void p40_noSuchCrossings() {
        SpentTurns s = Check.town(ONE);
        for (int x : NONE_OF_FOUR) {
            CHECK.due("demand(" + x + ", 1, 2)", s.demand(x, 1, 2), -2);
            CHECK.due("demand(0, " + x + ", 2)", s.demand(0, x, 2), -2);
            CHECK.due("demand(0, 1, " + x + ")", s.demand(0, 1, x), -2);
        }
    }

    // ---- 41: dearest ----

    static void p41_noErrand() {
        CHECK.due("dearest()", Check.town(ONE).dearest(), -1);
    }

    static void p41_errandsOfOneStreet() {
        CHECK.due("dearest()", Check.town(ONE + "errand 0 1 at 1;errand 2 1 at 1;").dearest(), -1);
    }

    static void p41_errandsWithoutAWay() {
        CHECK.due("dearest()", Check.town(ONE + "errand 2 0 at 1;errand 0 3 at 1;").dearest(), -1);
    }

    static void p41_leastOfSeveral() {
        CHECK.due("dearest()", Check.town(INNER + "errand 0 3 at 1;").dearest(), 12);
    }

    static void p41_greatest() {
        CHECK.due("dearest()", Check.town(INNER + "errand 0 3 at 1;errand 1 3 at 1;").dearest(), 123);
    }

    static void p41_theHighestTurn() {
        SpentTurns s = Check.town("town crossings 8 uses 1 half 0;street 7 6 1;street 6 5 1;errand 7 5 at 1;");
        CHECK.due("dearest()", s.dearest(), 765);
    }

    static void p41_theLowestTurn() {
        // 2 0 1 0 3: each turn once
        SpentTurns s = Check.town("town crossings 4 uses 1 half 1;street 0 1 1;street 0 2 1;street 0 3 1;turn 2 0 3 uses 0;errand 2 3 at 1;");
        CHECK.due("dearest()", s.dearest(), 10);
    }

    static void p41_noTown() {
        CHECK.due("dearest()", new SpentTurns().dearest(), -2);
    }

    // ---- 42: noon ----

    static void p42_theEmptySet() {
        CHECK.due("noon(0)", Check.town(ONE + "errand 0 3 at 1;").noon(0), 0);
        CHECK.due("noon(0) without errands", Check.town(ONE).noon(0), 0);
    }

    static void p42_theFullSet() {
        CHECK.due("noon(63)", Check.town(ONE + "errand 0 2 at 3;".repeat(6)).noon(63), 5);
    }

    static void p42_eachErrandAlone() {
        SpentTurns s = Check.town(ONE + "errand 0 1 at 3;errand 0 2 at 3;errand 2 0 at 3;errand 0 3 at 3;");
        int[] due = {0, 0, 1, -1};
        for (int e = 0; e < 4; e++) CHECK.due("noon(" + (1 << e) + ")", s.noon(1 << e), due[e]);
    }

    static void p42_whatTheyTakeIsGone() {
        CHECK.due("noon(3)", Check.town(ONE + "errand 0 2 at 3;errand 0 2 at 3;").noon(3), 1);
    }

    static void p42_oneUseOfSeveralIsGone() {
        SpentTurns s = Check.town(ONE + "turn 0 1 2 uses 3;" + "errand 0 2 at 3;".repeat(4));
        CHECK.due("noon(7)", s.noon(7), 0);
        CHECK.due("noon(15)", s.noon(15), 1);
    }

    static void p42_whatTheyBuyIsGivenBackJustForThat() {
        SpentTurns s = Check.town(ONE + "turn 0 1 2 uses 0;errand 0 2 at 3;errand 0 2 at 3;errand 0 2 at 3;");
        CHECK.due("noon(1)", s.noon(1), 1);
        CHECK.due("noon(7)", s.noon(7), 3);
    }

    static void p42_aShorterWayBehindALongerOne() {
        // the second leaves 1 2 3 alone, so that the third has its other use
        SpentTurns s = Check.town(INNER + "turn 0 1 2 uses 2;turn 1 2 3 uses 2;errand 0 3 at 1;errand 0 2 at 2;errand 1 3 at 3;");
        CHECK.due("noon(7)", s.noon(7), 0);
        CHECK.due("day()", s.day(), 3);
    }

    static void p42_inOrderOfNumbers() {
        // the first takes what the other must buy then; the other way about nothing is bought
        CHECK.due("noon(3)", Check.town(CROWDED + "errand 0 3 at 23;errand 1 3 at 0;").noon(3), 1);
        CHECK.due("noon(3) the other way about", Check.town(CROWDED + "errand 1 3 at 23;errand 0 3 at 0;").noon(3), 0);
    }

    static void p42_oneCant() {
        SpentTurns s = Check.town(ONE + "errand 0 2 at 3;errand 0 3 at 3;");
        CHECK.due("noon(2)", s.noon(2), -1);
        CHECK.due("noon(3)", s.noon(3), -1);
        CHECK.due("noon(1)", s.noon(1), 0);
    }

    static void p42_noSuchSet() {
        SpentTurns two = Check.town(ONE + "errand 0 2 at 3;errand 0 2 at 3;");
        for (int set : new int[] {-1, 4, 5, 8, 63, 64, LOWEST, HIGHEST}) CHECK.due("noon(" + set + ") of two", two.noon(set), -2);
        SpentTurns six = Check.town(ONE + "errand 0 2 at 3;".repeat(6));
        for (int set : new int[] {-1, 64, 127, LOWEST, HIGHEST}) CHECK.due("noon(" + set + ") of six", six.noon(set), -2);
        CHECK.due("noon(1) without errands", Check.town(ONE).noon(1), -2);
    }

    static void p42_noTown() {
        CHECK.due("noon(0)", new SpentTurns().noon(0), -2);
    }

    static void p42_nothingIsGone() {
        SpentTurns s = Check.town(ONE + "errand 0 2 at 3;errand 0 2 at 3;");
        CHECK.stays(s, "noon(3)", () -> s.noon(3), 1);
    }
}
