/** Promises 31 to 42: a day of errands, the best order at dawn, demand, what must be given back at noon. */
public final class ErrandTest {
    private static final Check CHECK = new Check("ErrandTest");

    public static void main(String[] args) {
        day();
        dayByUsesLeft();
        dawn();
        dawnOfSix();
        spares();
        demand();
        noon();
        none();
        CHECK.close();
    }

    private static void day() {
        SpentTurns s = Check.town(TownTest.TOWN);
        CHECK.due("day()", s.day(), 1);
        CHECK.due("goes(0)", s.goes(0), -1);
        CHECK.due("goes(1)", s.goes(1), 3);
        CHECK.due("goes(2)", s.goes(2), -1);
        CHECK.due("goes(3)", s.goes(3), -2);
        CHECK.due("goes(-1)", s.goes(-1), -2);
        CHECK.due("fails(), by hours", s.fails(), 2);
        CHECK.due("dusk()", s.dusk(), 10);
        CHECK.due("spent(1, 2, 4)", s.spent(1, 2, 4), 0);
        CHECK.due("spent(0, 1, 2)", s.spent(0, 1, 2), 1);
        CHECK.due("spent(0, 1, 3)", s.spent(0, 1, 3), -1);
        CHECK.due("spent(0, 1, 5)", s.spent(0, 1, 5), -2);
        CHECK.due("spent(-1, 1, 2)", s.spent(-1, 1, 2), -2);
        CHECK.due("all is as ahead", s.left(1, 2, 4), 1);
        CHECK.due("nothing is led", s.count(7), 0);
    }

    private static void dayByUsesLeft() {
        SpentTurns s = Check.town(TownTest.TOWN);
        s.give(1, 2, 4);
        CHECK.due("day() with two uses", s.day(), 2);
        CHECK.due("goes(2) with two uses", s.goes(2), 5);
        CHECK.due("fails() with two uses", s.fails(), 0);
        s.give(3, 2, 4);
        CHECK.due("day() with another way", s.day(), 3);
        CHECK.due("goes(0) by the other way", s.goes(0), 5);
        CHECK.due("fails() of none", s.fails(), -1);
        CHECK.due("spent(3, 2, 4)", s.spent(3, 2, 4), 0);
        CHECK.due("dusk()", s.dusk(), 13 - 5);
        // of one hour by numbers: the errands would not both go the other way about
        SpentTurns tie = Check.town("town crossings 3 uses 0 half 0;street 0 1 1;street 1 2 1;turn 0 1 2 uses 1;"
                + "errand 0 2 at 5;errand 0 2 at 5;errand 0 2 at 4;");
        CHECK.due("goes(2) ahead of all", tie.goes(2), 2);
        CHECK.due("goes(0)", tie.goes(0), -1);
        CHECK.due("fails() by numbers", tie.fails(), 0);
    }

    /** The errand 0 to 3 by 1 2 would use up what 1 to 3 needs, while it has a way of its own. */
    private static final String CROWDED = "town crossings 5 uses 0 half 0;street 0 1 1;street 1 2 1;street 2 3 1;street 0 4 4;street 4 3 4;"
            + "turn 0 1 2 uses 1;turn 1 2 3 uses 1;turn 0 4 3 uses 1;errand 0 3 at 5;errand 1 3 at 6;";

    private static void dawn() {
        SpentTurns s = Check.town(CROWDED);
        CHECK.due("day()", s.day(), 1);
        CHECK.due("dawn()", s.dawn(), 2);
        CHECK.due("first(0)", s.first(0), 1);
        CHECK.due("first(1)", s.first(1), 0);
        CHECK.due("first(2)", s.first(2), -1);
        CHECK.due("first(-1)", s.first(-1), -1);
        CHECK.due("least()", s.least(), 2 + 8);
        CHECK.due("all is as ahead", s.count(6), 3);
        s.give(1, 2, 3);
        CHECK.due("dawn() with two uses", s.dawn(), 2);
        CHECK.due("first(0) with two uses", s.first(0), 0);
        CHECK.due("least() with two uses", s.least(), 2 + 3);
        s.undo();
        CHECK.due("first(0) behind undo", s.first(0), 1);
        s.give(1, 2, 3);
        CHECK.due("first(0) behind give", s.first(0), 0);
        s.anew();
        CHECK.due("first(0) behind anew", s.first(0), 1);
        s.take(1, 2, 3);
        CHECK.due("dawn() behind take", s.dawn(), 1);
        s.anew();
        s.send(0, 0, 1, 5);
        CHECK.due("first(0) behind send", s.first(0), 0);
        CHECK.due("least() behind send", s.least(), 1 + 2);
        s.law(1, 2, 3, 0);
        CHECK.due("dawn() behind law", s.dawn(), 1);
        s.keep(0);
        s.build(1, 3, 2);
        CHECK.due("dawn() behind build", s.dawn(), 2);
        CHECK.due("least() behind build", s.least(), 1 + 2);
        s.back(0);
        CHECK.due("dawn() behind back", s.dawn(), 1);
        Check.tape(s, CROWDED);
        s.town();
        CHECK.due("dawn() behind town", s.dawn(), 2);
        SpentTurns all = Check.town(TownTest.TOWN);
        CHECK.due("dawn() where one goes", all.dawn(), 1);
        for (int i = 0; i < 3; i++) CHECK.due("first(" + i + ")", all.first(i), i);
        CHECK.due("least() of orders that do one", all.least(), 3);
    }

    private static void dawnOfSix() {
        // one turn with one use for each of five errands, and the first two errands want another's first
        String text = "town crossings 8 uses 0 half 0;street 0 1 1;street 1 2 1;street 2 3 1;street 3 4 1;street 4 5 1;street 5 6 1;street 6 7 1;"
                + "turn 0 1 2 uses 1;turn 1 2 3 uses 1;turn 2 3 4 uses 1;turn 3 4 5 uses 1;turn 4 5 6 uses 1;turn 5 6 7 uses 1;"
                + "errand 0 7 at 1;errand 0 2 at 2;errand 1 3 at 3;errand 2 4 at 4;errand 3 5 at 5;errand 4 6 at 6;";
        SpentTurns s = Check.town(text);
        CHECK.due("day()", s.day(), 1);
        CHECK.due("dawn()", s.dawn(), 5);
        int[] first = {1, 0, 2, 3, 4, 5};
        for (int i = 0; i < 6; i++) CHECK.due("first(" + i + ")", s.first(i), first[i]);
        CHECK.due("first(6)", s.first(6), -1);
        CHECK.due("least()", s.least(), 10);
        CHECK.due("spares(0)", s.spares(0), 4);
        CHECK.due("spares(5)", s.spares(5), 0);
    }

    private static void spares() {
        SpentTurns s = Check.town(CROWDED);
        CHECK.due("spares(0): the other goes", s.spares(0), 0);
        CHECK.due("spares(1): it fails anyway", s.spares(1), 0);
        CHECK.due("spares(2)", s.spares(2), -100);
        CHECK.due("spares(-1)", s.spares(-1), -100);
        s.give(1, 2, 3);
        CHECK.due("spares(0): one fewer", s.spares(0), -1);
        CHECK.due("nothing is gone", s.day(), 2);
    }

    private static void demand() {
        SpentTurns s = Check.town(TownTest.TOWN);
        CHECK.due("demand(1, 2, 4)", s.demand(1, 2, 4), 3);
        CHECK.due("demand(0, 1, 2)", s.demand(0, 1, 2), 2);
        CHECK.due("demand(3, 2, 4)", s.demand(3, 2, 4), 0);
        CHECK.due("demand(0, 1, 3)", s.demand(0, 1, 3), -1);
        CHECK.due("demand(0, 1, 5)", s.demand(0, 1, 5), -2);
        CHECK.due("dearest()", s.dearest(), 124);
        s.send(1, 1, 2, 0);
        CHECK.due("dearest(), the least of several", s.dearest(), 12);
        s.take(1, 2, 4);
        CHECK.due("demand(0, 1, 2) without a way", s.demand(0, 1, 2), 0);
        CHECK.due("dearest() of none", s.dearest(), -1);
        // 2 0 1 0 3: each turn once, the half turn 0 1 0 is the least of all
        SpentTurns about = Check.town("town crossings 4 uses 1 half 1;street 0 1 1;street 0 2 1;street 0 3 1;turn 2 0 3 uses 0;errand 2 3 at 1;");
        CHECK.due("dearest(), the first turn of all", about.dearest(), 10);
        CHECK.due("demand(1, 0, 3)", about.demand(1, 0, 3), 1);
    }

    private static void noon() {
        SpentTurns s = Check.town(TownTest.TOWN);
        CHECK.due("noon(0)", s.noon(0), 0);
        CHECK.due("noon(1)", s.noon(1), 0);
        CHECK.due("noon(2)", s.noon(2), 0);
        CHECK.due("noon(3)", s.noon(3), 1);
        CHECK.due("noon(5)", s.noon(5), 1);
        CHECK.due("noon(7)", s.noon(7), 2);
        CHECK.due("noon(8)", s.noon(8), -2);
        CHECK.due("noon(-1)", s.noon(-1), -2);
        CHECK.due("all is as ahead", s.count(6), 11);
        // what is bought is given back just for that: each buys it again
        SpentTurns again = Check.town("town crossings 4 uses 0 half 0;street 0 1 1;street 1 2 1;errand 0 2 at 5;errand 0 2 at 5;errand 0 3 at 0;");
        CHECK.due("noon(1) of one", again.noon(1), 1);
        CHECK.due("noon(3) of two", again.noon(3), 2);
        CHECK.due("noon(4): one can't", again.noon(4), -1);
        CHECK.due("noon(7): one can't", again.noon(7), -1);
    }

    private static void none() {
        SpentTurns s = new SpentTurns();
        CHECK.due("day()", s.day(), -2);
        CHECK.due("fails()", s.fails(), -2);
        CHECK.due("dusk()", s.dusk(), -2);
        CHECK.due("dawn()", s.dawn(), -2);
        CHECK.due("first(0)", s.first(0), -2);
        CHECK.due("least()", s.least(), -2);
        CHECK.due("dearest()", s.dearest(), -2);
        CHECK.due("noon(0)", s.noon(0), -2);
        SpentTurns t = Check.town("town crossings 2 uses 1 half 1;street 0 1 1;");
        CHECK.due("day() without errands", t.day(), 0);
        CHECK.due("fails() without errands", t.fails(), -1);
        CHECK.due("dusk() without errands", t.dusk(), 2);
        CHECK.due("dawn() without errands", t.dawn(), 0);
        CHECK.due("first(0) without errands", t.first(0), -1);
        CHECK.due("least() without errands", t.least(), 0);
        CHECK.due("goes(0) without errands", t.goes(0), -2);
        CHECK.due("noon(0) without errands", t.noon(0), 0);
        CHECK.due("noon(1) without errands", t.noon(1), -2);
    }
}
