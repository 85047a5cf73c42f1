/** Promises 43 to 47 and terms V: each boundary that a sentence names, in a test of its own. */
public final class EdgeGameTest {
    private static final Check CHECK = new Check("EdgeGameTest");
    private static final int LOWEST = Integer.MIN_VALUE;
    private static final int HIGHEST = Integer.MAX_VALUE;
    private static final int[] NONE_OF_FOUR = {-1, 4, 7, 8, 64, LOWEST, HIGHEST};
    private static final String TRIANGLE = "street 0 1 1;street 1 2 1;street 2 0 1;";
    /** A line 0 1 2, and 3 alone. */
    private static final String BARE = "town crossings 4 uses 0 half 0;street 0 1 1;street 1 2 1;";

    public static void main(String[] args) {
        CHECK.all(EdgeGameTest.class);
        CHECK.close();
    }

    // ---- 43: round ----

    static void p43_noTurn() {
        CHECK.due("round()", Check.town("town crossings 2 uses 1 half 1;").round(), 0);
    }

    static void p43_noTurnWithAUse() {
        CHECK.due("round()", Check.town(BARE).round(), 0);
    }

    static void p43_theLeast() {
        SpentTurns s = Check.town("town crossings 2 uses 0 half 1;street 0 1 1;");
        CHECK.due("round()", s.round(), 1);
        s.take(1, 0, 1);
        CHECK.due("round() of one turn", s.round(), 0);
    }

    static void p43_eachOnceHoweverManyUses() {
        SpentTurns s = Check.town("town crossings 2 uses 0 half 1;street 0 1 1;turn 0 1 0 uses 9;");
        CHECK.due("round()", s.round(), 1);
    }

    static void p43_twoApart() {
        CHECK.due("round()", Check.town("town crossings 3 uses 1 half 0;" + TRIANGLE).round(), 0);
        CHECK.due("uneven()", Check.town("town crossings 3 uses 1 half 0;" + TRIANGLE).uneven(), 0);
    }

    static void p43_twoThatHangTogether() {
        CHECK.due("round()", Check.town("town crossings 3 uses 1 half 1;" + TRIANGLE).round(), 1);
    }

    static void p43_unevenArcs() {
        SpentTurns s = Check.town(BARE + "turn 0 1 2 uses 1;");
        CHECK.due("round()", s.round(), 0);
        CHECK.due("uneven()", s.uneven(), 2);
    }

    static void p43_ofTurnsThatHaveAUseLeft() {
        SpentTurns s = Check.town("town crossings 3 uses 1 half 0;" + TRIANGLE);
        s.take(1, 0, 2);
        s.take(0, 2, 1);
        CHECK.due("round() of four", s.round(), 0);
        s.take(2, 1, 0);
        CHECK.due("round() of three", s.round(), 1);
    }

    static void p43_askedAgain() {
        SpentTurns s = Check.town("town crossings 3 uses 1 half 1;" + TRIANGLE);
        CHECK.due("round() of all", s.round(), 1);
        for (int x = 0; x < 3; x++)
            for (int y = 0; y < 3; y++) s.take(x, y, x);
        CHECK.due("round() of two apart", s.round(), 0);
        s.anew();
        CHECK.stays(s, "round() of all again", () -> s.round(), 1);
    }

    static void p43_noTown() {
        CHECK.due("round()", new SpentTurns().round(), -2);
    }

    // ---- 44: uneven ----

    static void p44_none() {
        CHECK.due("uneven() of no turn", Check.town("town crossings 2 uses 1 half 1;").uneven(), 0);
        CHECK.due("uneven() of no use", Check.town(BARE).uneven(), 0);
        CHECK.due("uneven() of two", Check.town("town crossings 2 uses 0 half 3;street 0 1 1;").uneven(), 0);
    }

    static void p44_turnsNotUses() {
        SpentTurns s = Check.town("town crossings 2 uses 0 half 1;street 0 1 1;turn 0 1 0 uses 9;");
        CHECK.due("uneven()", s.uneven(), 0);
    }

    static void p44_ofTurnsThatHaveAUseLeft() {
        SpentTurns s = Check.town("town crossings 2 uses 0 half 1;street 0 1 1;");
        s.take(0, 1, 0);
        CHECK.due("uneven() of one", s.uneven(), 2);
        s.take(1, 0, 1);
        CHECK.due("uneven() of none", s.uneven(), 0);
    }

    static void p44_allArcs() {
        // from the arcs to 0 six turns go and one comes; to the arcs from 0 six come and one goes
        StringBuilder text = new StringBuilder("town crossings 7 uses 1 half 1;");
        for (int y = 1; y < 7; y++) text.append("street 0 " + y + " 1;");
        CHECK.due("uneven()", Check.town(text.toString()).uneven(), 12);
    }

    static void p44_noTown() {
        CHECK.due("uneven()", new SpentTurns().uneven(), -2);
    }

    // ---- 45: wins ----

    private static SpentTurns toAndFro(int there, int back) {
        return Check.town(BARE + "turn 0 1 0 uses " + there + ";turn 1 0 1 uses " + back + ";");
    }

    static void p45_whoCantHasLost() {
        CHECK.due("wins(0, 1)", Check.town(BARE).wins(0, 1), 0);
        CHECK.due("wins(1, 2)", Check.town(BARE + "turn 0 1 2 uses 1;").wins(1, 2), 0);
    }

    static void p45_theLastUse() {
        CHECK.due("wins(0, 1)", Check.town(BARE + "turn 0 1 2 uses 1;").wins(0, 1), 1);
    }

    static void p45_hasOneLess() {
        CHECK.due("wins(0, 1) of 1 and 1", toAndFro(1, 1).wins(0, 1), 0);
        CHECK.due("wins(0, 1) of 2 and 1", toAndFro(2, 1).wins(0, 1), 1);
        CHECK.due("wins(0, 1) of 1 and 2", toAndFro(1, 2).wins(0, 1), 0);
    }

    static void p45_twelveUses() {
        CHECK.due("wins(0, 1) of 6 and 6", toAndFro(6, 6).wins(0, 1), 0);
        CHECK.due("wins(0, 1) of 7 and 5", toAndFro(7, 5).wins(0, 1), 1);
    }

    static void p45_moreThanTwelve() {
        CHECK.due("wins(0, 1) of 7 and 6", toAndFro(7, 6).wins(0, 1), -1);
        CHECK.due("wins(0, 1) of 9 and 9", toAndFro(9, 9).wins(0, 1), -1);
    }

    static void p45_usesLeftNotInTheMorning() {
        SpentTurns s = toAndFro(7, 6);
        s.take(1, 0, 1);
        CHECK.due("wins(0, 1) behind take", s.wins(0, 1), 1);
        s.give(0, 1, 0);
        CHECK.due("wins(0, 1) behind give", s.wins(0, 1), -1);
    }

    static void p45_looksOnByEachTurn() {
        // by 0 the other goes on by 3 and wins; by 2 he can't go on
        SpentTurns s = Check.town("town crossings 4 uses 0 half 0;street 0 1 1;street 1 2 1;street 0 3 1;"
                + "turn 0 1 0 uses 1;turn 1 0 1 uses 1;turn 0 1 2 uses 1;turn 1 0 3 uses 1;");
        CHECK.due("wins(0, 1)", s.wins(0, 1), 1);
        CHECK.due("turn(0, 1)", s.turn(0, 1), 2);
        CHECK.due("wins(1, 0)", s.wins(1, 0), 1);
        CHECK.due("turn(1, 0)", s.turn(1, 0), 3);
    }

    static void p45_usesElsewhereCount() {
        SpentTurns s = Check.town(BARE + "turn 0 1 0 uses 4;turn 1 2 1 uses 9;");
        CHECK.due("wins(1, 0)", s.wins(1, 0), -1);
    }

    static void p45_noSuchStreet() {
        CHECK.due("wins(0, 2)", Check.town(BARE).wins(0, 2), -3);
        CHECK.due("wins(3, 0)", Check.town(BARE).wins(3, 0), -3);
        CHECK.due("wins(0, 2) of too many", toAndFro(9, 9).wins(0, 2), -3);
    }

    static void p45_oneTwice() {
        for (int x = 0; x < 4; x++) CHECK.due("wins", toAndFro(9, 9).wins(x, x), -2);
    }

    static void p45_noneSuch() {
        SpentTurns s = toAndFro(1, 1);
        for (int x : NONE_OF_FOUR) {
            CHECK.due("wins(" + x + ", 0)", s.wins(x, 0), -2);
            CHECK.due("wins(0, " + x + ")", s.wins(0, x), -2);
        }
    }

    static void p45_takesNothing() {
        SpentTurns s = toAndFro(7, 5);
        CHECK.stays(s, "wins(0, 1)", () -> s.wins(0, 1), 1);
    }

    // ---- 46: turn ----

    static void p46_theLeast() {
        SpentTurns s = Check.town("town crossings 4 uses 0 half 0;street 0 1 1;street 1 2 1;street 1 3 1;turn 0 1 2 uses 1;turn 0 1 3 uses 1;");
        CHECK.due("turn(0, 1)", s.turn(0, 1), 2);
        s.give(0, 1, 0);
        CHECK.due("turn(0, 1) by a half turn", s.turn(0, 1), 0);
    }

    static void p46_theLeastThatWins() {
        SpentTurns s = Check.town("town crossings 4 uses 0 half 0;street 0 1 1;street 1 2 1;street 1 3 1;"
                + "turn 0 1 2 uses 1;turn 1 2 1 uses 1;turn 0 1 3 uses 1;");
        CHECK.due("turn(0, 1)", s.turn(0, 1), 3);
    }

    static void p46_theHighest() {
        CHECK.due("turn(5, 6)", Check.town("town crossings 8 uses 1 half 0;street 5 6 1;street 6 7 1;").turn(5, 6), 7);
    }

    static void p46_heLoses() {
        CHECK.due("turn(0, 1) without uses", Check.town(BARE).turn(0, 1), -1);
        CHECK.due("turn(0, 1) of 1 and 1", toAndFro(1, 1).turn(0, 1), -1);
    }

    static void p46_twelveUses() {
        CHECK.due("turn(0, 1) of 7 and 5", toAndFro(7, 5).turn(0, 1), 0);
        CHECK.due("turn(0, 1) of 6 and 6", toAndFro(6, 6).turn(0, 1), -1);
    }

    static void p46_tooManyAreLeft() {
        CHECK.due("turn(0, 1) of 7 and 6", toAndFro(7, 6).turn(0, 1), -1);
    }

    static void p46_noSuchStreet() {
        CHECK.due("turn(0, 2)", Check.town(BARE).turn(0, 2), -3);
        CHECK.due("turn(0, 2) of too many", toAndFro(9, 9).turn(0, 2), -3);
    }

    static void p46_oneTwice() {
        for (int x = 0; x < 4; x++) CHECK.due("turn", toAndFro(9, 9).turn(x, x), -2);
    }

    static void p46_noneSuch() {
        SpentTurns s = toAndFro(1, 1);
        for (int x : NONE_OF_FOUR) {
            CHECK.due("turn(" + x + ", 0)", s.turn(x, 0), -2);
            CHECK.due("turn(0, " + x + ")", s.turn(0, x), -2);
        }
    }

    // ---- 47: chase ----

    /** From 0 to 2 by 1, or farther by 3; a fifth crossing alone. */
    private static final String TWO_WAYS = "town crossings 5 uses 3 half 0;street 0 1 1;street 1 2 1;street 0 3 2;street 3 2 2;";

    static void p47_allUsesOfItsTurns() {
        CHECK.due("chase(0, 2, 0)", Check.town(TWO_WAYS + "turn 0 1 2 uses 9;").chase(0, 2, 0), 4);
    }

    static void p47_eachOfItsTurns() {
        // he who comes by 0 1 2 can't, he who comes from 1 goes around by 4
        SpentTurns s = Check.town("town crossings 5 uses 3 half 0;street 0 1 1;street 1 2 1;street 2 3 1;street 2 4 2;street 4 3 2;");
        CHECK.due("chase(0, 3, 0)", s.chase(0, 3, 0), -1);
        CHECK.due("chase(0, 3, 1)", s.chase(0, 3, 1), 5);
        CHECK.due("chase(1, 3, 0)", s.chase(1, 3, 0), 6);
    }

    static void p47_theThiefIsThere() {
        CHECK.due("chase(2, 2, 0)", Check.town(TWO_WAYS).chase(2, 2, 0), 2);
    }

    static void p47_theThiefGoesOneStreet() {
        CHECK.due("chase(1, 2, 0)", Check.town(TWO_WAYS).chase(1, 2, 0), 2);
    }

    static void p47_heIsThere() {
        CHECK.due("chase(0, 2, 2)", Check.town(TWO_WAYS).chase(0, 2, 2), 0);
    }

    static void p47_allAreThere() {
        CHECK.due("chase(4, 4, 4)", Check.town(TWO_WAYS).chase(4, 4, 4), 0);
    }

    static void p47_thereIsNone() {
        CHECK.due("chase(0, 2, 4)", Check.town(TWO_WAYS).chase(0, 2, 4), -1);
        CHECK.due("chase(0, 2, 0)", Check.town(BARE + "turn 0 1 2 uses 9;").chase(0, 2, 0), -1);
    }

    static void p47_theThiefHasNone() {
        CHECK.due("chase(4, 2, 0)", Check.town(TWO_WAYS).chase(4, 2, 0), -1);
        CHECK.due("chase(4, 2, 2)", Check.town(TWO_WAYS).chase(4, 2, 2), -1);
        CHECK.due("chase(0, 2, 1) without uses", Check.town(BARE).chase(0, 2, 1), -1);
    }

    static void p47_nothingIsBurnt() {
        SpentTurns s = Check.town(TWO_WAYS);
        CHECK.stays(s, "chase(0, 2, 0)", () -> s.chase(0, 2, 0), 4);
    }

    static void p47_noneSuch() {
        SpentTurns s = Check.town(BARE);
        for (int x : NONE_OF_FOUR) {
            CHECK.due("chase(" + x + ", 0, 0)", s.chase(x, 0, 0), -2);
            CHECK.due("chase(0, " + x + ", 0)", s.chase(0, x, 0), -2);
            CHECK.due("chase(0, 0, " + x + ")", s.chase(0, 0, x), -2);
            CHECK.due("chase(3, 0, " + x + "), the thief has none", s.chase(3, 0, x), -2);
        }
    }
}
