/** Promises 43 to 47: rounds of all turns, the game of turning, the thief. */
public final class GameTest {
    private static final Check CHECK = new Check("GameTest");

    public static void main(String[] args) {
        rounds();
        unevenArcs();
        gameOfTwo();
        gameOfSeveral();
        bounds();
        chase();
        CHECK.close();
    }

    private static final String TRIANGLE = "street 0 1 1;street 1 2 1;street 2 0 1;";

    private static void rounds() {
        SpentTurns apart = Check.town("town crossings 3 uses 1 half 0;" + TRIANGLE);
        CHECK.due("uneven() of two rounds", apart.uneven(), 0);
        CHECK.due("round() of two rounds", apart.round(), 0);
        SpentTurns whole = Check.town("town crossings 3 uses 3 half 1;" + TRIANGLE);
        CHECK.due("uneven() of one round", whole.uneven(), 0);
        CHECK.due("round() of one round", whole.round(), 1);
        whole.take(0, 1, 2);
        CHECK.due("round(): a use is left", whole.round(), 1);
        SpentTurns none = Check.town("town crossings 3 uses 0 half 0;" + TRIANGLE);
        CHECK.due("uneven() of none", none.uneven(), 0);
        CHECK.due("round() of none", none.round(), 0);
        none.give(0, 1, 2);
        none.give(1, 2, 0);
        none.give(2, 0, 1);
        CHECK.due("round() of three", none.round(), 1);
        none.give(0, 1, 0);
        CHECK.due("round() of four", none.round(), 0);
        CHECK.due("uneven() of four", none.uneven(), 2);
        CHECK.due("round() of no town", new SpentTurns().round(), -2);
        CHECK.due("uneven() of no town", new SpentTurns().uneven(), -2);
    }

    private static void unevenArcs() {
        SpentTurns s = Check.town(TownTest.TOWN);
        CHECK.due("uneven()", s.uneven(), 5);
        CHECK.due("round()", s.round(), 0);
    }

    private static void gameOfTwo() {
        SpentTurns s = Check.town("town crossings 2 uses 0 half 1;street 0 1 3;");
        CHECK.due("round()", s.round(), 1);
        CHECK.due("wins(0, 1)", s.wins(0, 1), 0);
        CHECK.due("turn(0, 1)", s.turn(0, 1), -1);
        s.take(1, 0, 1);
        CHECK.due("wins(0, 1) behind take", s.wins(0, 1), 1);
        CHECK.due("turn(0, 1) behind take", s.turn(0, 1), 0);
        CHECK.due("wins(1, 0) behind take", s.wins(1, 0), 0);
        CHECK.due("uneven() behind take", s.uneven(), 2);
        CHECK.due("the game takes nothing", s.left(0, 1, 0), 1);
    }

    private static void gameOfSeveral() {
        SpentTurns s = Check.town("town crossings 4 uses 0 half 0;street 0 1 1;street 1 2 1;street 1 3 1;"
                + "turn 0 1 2 uses 1;turn 0 1 3 uses 1;turn 1 2 1 uses 1;");
        CHECK.due("wins(0, 1)", s.wins(0, 1), 1);
        CHECK.due("turn(0, 1)", s.turn(0, 1), 3);
        s.give(0, 1, 0);
        CHECK.due("turn(0, 1), the least", s.turn(0, 1), 0);
        s.give(1, 0, 1);
        // the other must turn back at 0 then, and 3 wins behind that
        CHECK.due("turn(0, 1) looks on", s.turn(0, 1), 0);
        s.take(0, 1, 3);
        // now 2 loses by the half turn at 2, and so does 0, behind which 2 alone is open
        CHECK.due("wins(0, 1) without 3", s.wins(0, 1), 0);
        CHECK.due("turn(0, 1) without 3", s.turn(0, 1), -1);
        // all is forced behind the first turn: by 2 or by 4 all seven are taken
        SpentTurns again = Check.town("town crossings 5 uses 0 half 0;street 0 1 1;street 1 2 1;street 1 4 1;turn 0 1 2 uses 1;"
                + "turn 0 1 4 uses 1;turn 1 2 1 uses 1;turn 1 4 1 uses 1;turn 2 1 0 uses 1;turn 1 0 1 uses 1;turn 4 1 0 uses 1;");
        CHECK.due("wins(0, 1) of seven", again.wins(0, 1), 1);
        CHECK.due("turn(0, 1) of seven", again.turn(0, 1), 2);
        again.take(4, 1, 0);
        // by 2 six are taken, by 4 two, so that the other has the last
        CHECK.due("wins(0, 1) of six", again.wins(0, 1), 0);
        again.take(2, 1, 0);
        again.take(1, 4, 1);
        CHECK.due("turn(0, 1) by 4 alone", again.turn(0, 1), 4);
    }

    private static void bounds() {
        SpentTurns s = Check.town("town crossings 3 uses 0 half 0;street 0 1 1;turn 0 1 0 uses 6;turn 1 0 1 uses 6;");
        CHECK.due("wins(0, 1) of twelve", s.wins(0, 1), 0);
        s.give(0, 1, 0);
        CHECK.due("wins(0, 1) of thirteen", s.wins(0, 1), -1);
        CHECK.due("turn(0, 1) of thirteen", s.turn(0, 1), -1);
        CHECK.due("wins(0, 2) of thirteen", s.wins(0, 2), -3);
        CHECK.due("wins(0, 0) of thirteen", s.wins(0, 0), -2);
        s.take(1, 0, 1);
        CHECK.due("wins(0, 1) of seven and five", s.wins(0, 1), 1);
        CHECK.due("turn(0, 1) of seven and five", s.turn(0, 1), 0);
        CHECK.due("turn(0, 2)", s.turn(0, 2), -3);
        CHECK.due("turn(1, 1)", s.turn(1, 1), -2);
        CHECK.due("turn(0, 3)", s.turn(0, 3), -2);
        CHECK.due("wins(3, 0)", s.wins(3, 0), -2);
        CHECK.due("wins(-1, 0)", s.wins(-1, 0), -2);
        CHECK.due("wins of no town", new SpentTurns().wins(0, 1), -2);
    }

    private static void chase() {
        SpentTurns s = Check.town("town crossings 5 uses 3 half 0;street 0 1 1;street 1 2 1;street 0 3 2;street 3 2 2;");
        CHECK.due("chase(0, 2, 0)", s.chase(0, 2, 0), 4);
        CHECK.due("chase(0, 2, 1)", s.chase(0, 2, 1), 1);
        CHECK.due("chase(0, 1, 0)", s.chase(0, 1, 0), 1);
        CHECK.due("chase(0, 0, 2)", s.chase(0, 0, 2), 2);
        CHECK.due("chase(0, 2, 2)", s.chase(0, 2, 2), 0);
        CHECK.due("chase: the thief has none", s.chase(4, 2, 0), -1);
        CHECK.due("chase: he has none", s.chase(0, 2, 4), -1);
        CHECK.due("chase: the thief has none, he is there", s.chase(4, 2, 2), -1);
        CHECK.due("nothing is burnt for good", s.left(0, 1, 2), 3);
        CHECK.due("chase(0, 5, 0)", s.chase(0, 5, 0), -2);
        CHECK.due("chase(5, 0, 0)", s.chase(5, 0, 0), -2);
        CHECK.due("chase(0, 0, -1)", s.chase(0, 0, -1), -2);
        SpentTurns line = Check.town("town crossings 4 uses 1 half 0;street 0 1 1;street 1 2 1;street 2 3 1;");
        CHECK.due("chase: all is burnt", line.chase(0, 3, 1), -1);
    }
}
