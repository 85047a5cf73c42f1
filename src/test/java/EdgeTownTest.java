/** Promises 6 to 16 and 61: each boundary that a sentence names, in a test of its own. */
public final class EdgeTownTest {
    private static final Check CHECK = new Check("EdgeTownTest");
    private static final int LOWEST = Integer.MIN_VALUE;
    private static final int HIGHEST = Integer.MAX_VALUE;
    /** No crossings of a town of four. */
    private static final int[] NONE_OF_FOUR = {-1, 4, 7, 8, 64, LOWEST, HIGHEST};
    /** A line 0 1 2, and 3 alone. */
    private static final String LINE = "town crossings 4 uses 2 half 1;street 0 1 1;street 1 2 9;";

    public static void main(String[] args) {
        CHECK.all(EdgeTownTest.class);
        CHECK.close();
    }

    private static SpentTurns line() {
        return Check.town(LINE);
    }

    /** Fills the record: so many times a use is given and taken. */
    private static SpentTurns led(int n) {
        SpentTurns s = line();
        for (int i = 0; i < n; i++) {
            if (i % 2 == 0) s.give(0, 1, 2);
            else s.take(0, 1, 2);
        }
        return s;
    }

    private static String fullStreets() {
        StringBuilder text = new StringBuilder("town crossings 8 uses 3 half 2;");
        for (int y = 1; y < 8; y++) text.append("street 0 ").append(y).append(" 9;");
        for (int y = 2; y < 8; y++) text.append("street 7 ").append(y - 1).append(" 1;");
        return text.append("street 2 3 5;").toString();
    }

    // ---- 6: street ----

    static void p06_shortestAndLongest() {
        CHECK.due("street(0, 1)", line().street(0, 1), 1);
        CHECK.due("street(1, 2)", line().street(1, 2), 9);
    }

    static void p06_bothWaysAbout() {
        CHECK.due("street(1, 0)", line().street(1, 0), 1);
        CHECK.due("street(2, 1)", line().street(2, 1), 9);
    }

    static void p06_none() {
        CHECK.due("street(0, 2)", line().street(0, 2), 0);
        CHECK.due("street(3, 0)", line().street(3, 0), 0);
    }

    static void p06_oneTwice() {
        for (int x = 0; x < 4; x++) CHECK.due("street(" + x + ", " + x + ")", line().street(x, x), -2);
    }

    static void p06_noneSuch() {
        SpentTurns s = line();
        for (int x : NONE_OF_FOUR) {
            CHECK.due("street(" + x + ", 0)", s.street(x, 0), -2);
            CHECK.due("street(0, " + x + ")", s.street(0, x), -2);
            CHECK.due("street(" + x + ", " + x + ")", s.street(x, x), -2);
        }
    }

    static void p06_theLastOfEightCrossings() {
        SpentTurns s = Check.town("town crossings 8 uses 0 half 0;street 7 6 3;");
        CHECK.due("street(6, 7)", s.street(6, 7), 3);
        CHECK.due("street(7, 8)", s.street(7, 8), -2);
    }

    static void p06_theLastOfTwoCrossings() {
        SpentTurns s = Check.town("town crossings 2 uses 0 half 0;");
        CHECK.due("street(0, 1)", s.street(0, 1), 0);
        CHECK.due("street(1, 2)", s.street(1, 2), -2);
    }

    // ---- 7: uses ----

    static void p07_asToldElseHalfElseUses() {
        SpentTurns s = Check.town(LINE + "turn 0 1 2 uses 9;turn 0 1 0 uses 0;");
        CHECK.due("as told", s.uses(0, 1, 2), 9);
        CHECK.due("as told, a half turn", s.uses(0, 1, 0), 0);
        CHECK.due("half for half turns", s.uses(2, 1, 2), 1);
        CHECK.due("half at an end", s.uses(1, 0, 1), 1);
        CHECK.due("uses for others", s.uses(2, 1, 0), 2);
    }

    static void p07_noneAndMost() {
        SpentTurns none = Check.town("town crossings 3 uses 0 half 3;street 0 1 1;street 1 2 1;");
        CHECK.due("uses 0", none.uses(0, 1, 2), 0);
        CHECK.due("half 3", none.uses(0, 1, 0), 3);
        SpentTurns most = Check.town("town crossings 3 uses 3 half 0;street 0 1 1;street 1 2 1;");
        CHECK.due("uses 3", most.uses(0, 1, 2), 3);
        CHECK.due("half 0", most.uses(0, 1, 0), 0);
    }

    static void p07_noStreetToTheSecond() {
        CHECK.due("uses(0, 2, 1)", line().uses(0, 2, 1), -1);
        CHECK.due("uses(1, 1, 0)", line().uses(1, 1, 0), -1);
    }

    static void p07_noStreetToTheThird() {
        CHECK.due("uses(1, 0, 2)", line().uses(1, 0, 2), -1);
        CHECK.due("uses(0, 1, 1)", line().uses(0, 1, 1), -1);
        CHECK.due("uses(0, 1, 3)", line().uses(0, 1, 3), -1);
    }

    static void p07_noStreetAtAll() {
        CHECK.due("uses(3, 3, 3)", line().uses(3, 3, 3), -1);
        CHECK.due("uses(0, 3, 0)", line().uses(0, 3, 0), -1);
    }

    static void p07_noSuchCrossings() {
        SpentTurns s = line();
        for (int x : NONE_OF_FOUR) {
            CHECK.due("uses(" + x + ", 1, 2)", s.uses(x, 1, 2), -2);
            CHECK.due("uses(0, " + x + ", 2)", s.uses(0, x, 2), -2);
            CHECK.due("uses(0, 1, " + x + ")", s.uses(0, 1, x), -2);
        }
    }

    static void p07_inTheMorningWhateverIsTaken() {
        SpentTurns s = line();
        s.take(0, 1, 2);
        s.give(2, 1, 0);
        CHECK.due("uses(0, 1, 2)", s.uses(0, 1, 2), 2);
        CHECK.due("uses(2, 1, 0)", s.uses(2, 1, 0), 2);
    }

    // ---- 8: left ----

    static void p08_asInTheMorningAtFirst() {
        SpentTurns s = Check.town(LINE + "turn 0 1 2 uses 9;turn 0 1 0 uses 0;");
        CHECK.due("left(0, 1, 2)", s.left(0, 1, 2), 9);
        CHECK.due("left(0, 1, 0)", s.left(0, 1, 0), 0);
        CHECK.due("left(2, 1, 2)", s.left(2, 1, 2), 1);
        CHECK.due("left(2, 1, 0)", s.left(2, 1, 0), 2);
    }

    static void p08_noneLeft() {
        SpentTurns s = line();
        s.take(0, 1, 2);
        s.take(0, 1, 2);
        CHECK.due("left(0, 1, 2)", s.left(0, 1, 2), 0);
    }

    static void p08_moreThanInTheMorning() {
        SpentTurns s = line();
        s.give(0, 1, 0);
        CHECK.due("left(0, 1, 0)", s.left(0, 1, 0), 2);
        CHECK.due("uses(0, 1, 0)", s.uses(0, 1, 0), 1);
    }

    static void p08_noSuchTurn() {
        SpentTurns s = line();
        int[][] none = {{0, 2, 1}, {1, 1, 0}, {1, 0, 2}, {0, 1, 1}, {3, 3, 3}, {0, 3, 0}};
        for (int[] t : none) CHECK.due("left of no turn", s.left(t[0], t[1], t[2]), -1);
    }

    static void p08_noSuchCrossings() {
        SpentTurns s = line();
        for (int x : NONE_OF_FOUR) {
            CHECK.due("left(" + x + ", 1, 2)", s.left(x, 1, 2), -2);
            CHECK.due("left(0, " + x + ", 2)", s.left(0, x, 2), -2);
            CHECK.due("left(0, 1, " + x + ")", s.left(0, 1, x), -2);
        }
    }

    // ---- 9: beside ----

    static void p09_none() {
        CHECK.due("beside(3)", line().beside(3), 0);
    }

    static void p09_all() {
        SpentTurns s = Check.town(fullStreets());
        CHECK.due("beside(0)", s.beside(0), 0b11111110);
        CHECK.due("beside(7)", s.beside(7), 0b01111111);
    }

    static void p09_notItself() {
        CHECK.due("beside(1)", line().beside(1), 0b101);
    }

    static void p09_noneSuch() {
        SpentTurns s = line();
        for (int x : NONE_OF_FOUR) CHECK.due("beside(" + x + ")", s.beside(x), -2);
    }

    // ---- 10: corner ----

    static void p10_noStreet() {
        for (int what = 0; what < 3; what++) CHECK.due("corner(3, " + what + ")", line().corner(3, what), 0);
    }

    static void p10_oneStreet() {
        for (int what = 0; what < 3; what++) CHECK.due("corner(0, " + what + ")", line().corner(0, what), 1);
    }

    static void p10_all() {
        SpentTurns s = Check.town(fullStreets());
        CHECK.due("corner(0, 0)", s.corner(0, 0), 49);
        CHECK.due("corner(0, 1)", s.corner(0, 1), 49);
        CHECK.due("corner(0, 2)", s.corner(0, 2), 42 * 3 + 7 * 2);
    }

    static void p10_withoutAUseLeft() {
        SpentTurns s = line();
        s.take(0, 1, 0);
        s.take(0, 1, 2);
        CHECK.due("corner(1, 0)", s.corner(1, 0), 4);
        CHECK.due("corner(1, 1)", s.corner(1, 1), 3);
        CHECK.due("corner(1, 2)", s.corner(1, 2), 6 - 2);
    }

    static void p10_noUseAtAll() {
        SpentTurns s = Check.town("town crossings 2 uses 0 half 0;street 0 1 1;");
        CHECK.due("corner(0, 0)", s.corner(0, 0), 1);
        CHECK.due("corner(0, 1)", s.corner(0, 1), 0);
        CHECK.due("corner(0, 2)", s.corner(0, 2), 0);
    }

    static void p10_noSuchCrossing() {
        SpentTurns s = line();
        for (int x : NONE_OF_FOUR)
            for (int what = 0; what < 3; what++) CHECK.due("corner(" + x + ", " + what + ")", s.corner(x, what), -2);
    }

    static void p10_noSuchWhat() {
        SpentTurns s = line();
        for (int what : new int[] {-1, 3, LOWEST, HIGHEST}) CHECK.due("corner(1, " + what + ")", s.corner(1, what), -2);
    }

    // ---- 11: errand ----

    static void p11_firstAndLastOfSix() {
        SpentTurns s = Check.town(LINE + "errand 3 0 at 0;" + "errand 1 2 at 5;".repeat(4) + "errand 0 3 at 23;");
        int[] first = {3, 0, 0};
        int[] last = {0, 3, 23};
        for (int what = 0; what < 3; what++) {
            CHECK.due("errand(0, " + what + ")", s.errand(0, what), first[what]);
            CHECK.due("errand(5, " + what + ")", s.errand(5, what), last[what]);
        }
        CHECK.due("errand(6, 0)", s.errand(6, 0), -2);
    }

    static void p11_noneOfTwo() {
        SpentTurns s = Check.town(LINE + "errand 3 0 at 0;errand 1 2 at 5;");
        for (int e : new int[] {-1, 2, 5, 6, LOWEST, HIGHEST})
            for (int what = 0; what < 3; what++) CHECK.due("errand(" + e + ", " + what + ")", s.errand(e, what), -2);
    }

    static void p11_noneOfNone() {
        CHECK.due("errand(0, 0)", line().errand(0, 0), -2);
    }

    static void p11_noSuchWhat() {
        SpentTurns s = Check.town(LINE + "errand 3 0 at 0;");
        for (int what : new int[] {-1, 3, LOWEST, HIGHEST}) CHECK.due("errand(0, " + what + ")", s.errand(0, what), -2);
    }

    // ---- 12: take ----

    static void p12_toTheLastUse() {
        SpentTurns s = line();
        CHECK.due("take(0, 1, 2)", s.take(0, 1, 2), 1);
        CHECK.due("take(0, 1, 2) again", s.take(0, 1, 2), 0);
    }

    static void p12_itHasNone() {
        SpentTurns s = Check.town(LINE + "turn 0 1 2 uses 0;");
        CHECK.stays(s, "take(0, 1, 2)", () -> s.take(0, 1, 2), -5);
        s.take(0, 1, 0);
        CHECK.stays(s, "take(0, 1, 0)", () -> s.take(0, 1, 0), -5);
    }

    static void p12_oneTurnAlone() {
        SpentTurns s = line();
        s.take(0, 1, 2);
        CHECK.due("count(6)", s.count(6), 8 - 1);
        CHECK.due("left(2, 1, 0)", s.left(2, 1, 0), 2);
    }

    static void p12_theSixtieth() {
        SpentTurns s = led(59);
        CHECK.due("take(0, 1, 0)", s.take(0, 1, 0), 0);
        CHECK.due("count(7)", s.count(7), 60);
    }

    static void p12_thereWereSixty() {
        SpentTurns s = led(60);
        CHECK.stays(s, "take(0, 1, 2)", () -> s.take(0, 1, 2), -5);
        CHECK.due("count(7)", s.count(7), 60);
    }

    static void p12_sixtyOfWhichOneIsTakenBack() {
        SpentTurns s = led(60);
        s.undo();
        CHECK.due("take(0, 1, 2)", s.take(0, 1, 2), 2);
        CHECK.due("take(0, 1, 2) again", s.take(0, 1, 2), -5);
    }

    static void p12_moreThanSixtyOneByOneTakenBack() {
        SpentTurns s = line();
        for (int i = 0; i < 70; i++) {
            CHECK.due("take(0, 1, 2)", s.take(0, 1, 2), 1);
            CHECK.due("undo()", s.undo(), 0);
        }
    }

    static void p12_noneSuch() {
        SpentTurns s = line();
        int[][] none = {{0, 2, 1}, {1, 1, 0}, {1, 0, 2}, {0, 1, 1}, {3, 3, 3}, {0, 3, 0}};
        for (int[] t : none) CHECK.stays(s, "take of no turn", () -> s.take(t[0], t[1], t[2]), -3);
    }

    static void p12_noneSuchBehindSixty() {
        SpentTurns s = led(60);
        CHECK.stays(s, "take(0, 2, 1)", () -> s.take(0, 2, 1), -3);
        CHECK.stays(s, "take(0, 4, 1)", () -> s.take(0, 4, 1), -2);
    }

    static void p12_noSuchCrossings() {
        SpentTurns s = line();
        for (int x : NONE_OF_FOUR) {
            CHECK.stays(s, "take(" + x + ", 1, 2)", () -> s.take(x, 1, 2), -2);
            CHECK.stays(s, "take(0, " + x + ", 2)", () -> s.take(0, x, 2), -2);
            CHECK.stays(s, "take(0, 1, " + x + ")", () -> s.take(0, 1, x), -2);
        }
    }

    // ---- 13: give ----

    static void p13_upToNine() {
        SpentTurns s = line();
        for (int i = 3; i <= 9; i++) CHECK.due("give(0, 1, 2)", s.give(0, 1, 2), i);
        CHECK.stays(s, "give(0, 1, 2) of nine", () -> s.give(0, 1, 2), -5);
        CHECK.due("left(0, 1, 2)", s.left(0, 1, 2), 9);
    }

    static void p13_nineAsTold() {
        SpentTurns s = Check.town(LINE + "turn 0 1 2 uses 9;");
        CHECK.stays(s, "give(0, 1, 2)", () -> s.give(0, 1, 2), -5);
        s.take(0, 1, 2);
        CHECK.due("give(0, 1, 2) of eight", s.give(0, 1, 2), 9);
    }

    static void p13_ofNone() {
        SpentTurns s = Check.town(LINE + "turn 0 1 2 uses 0;");
        CHECK.due("give(0, 1, 2)", s.give(0, 1, 2), 1);
    }

    static void p13_theSixtieth() {
        SpentTurns s = led(59);
        CHECK.due("give(0, 1, 0)", s.give(0, 1, 0), 2);
        CHECK.due("count(7)", s.count(7), 60);
    }

    static void p13_thereWereSixty() {
        SpentTurns s = led(60);
        CHECK.stays(s, "give(0, 1, 2)", () -> s.give(0, 1, 2), -5);
    }

    static void p13_noneSuch() {
        SpentTurns s = line();
        int[][] none = {{0, 2, 1}, {1, 1, 0}, {1, 0, 2}, {0, 1, 1}, {3, 3, 3}, {0, 3, 0}};
        for (int[] t : none) CHECK.stays(s, "give of no turn", () -> s.give(t[0], t[1], t[2]), -3);
        SpentTurns full = led(60);
        CHECK.stays(full, "give(0, 2, 1) behind sixty", () -> full.give(0, 2, 1), -3);
    }

    static void p13_noSuchCrossings() {
        SpentTurns s = line();
        for (int x : NONE_OF_FOUR) {
            CHECK.stays(s, "give(" + x + ", 1, 2)", () -> s.give(x, 1, 2), -2);
            CHECK.stays(s, "give(0, " + x + ", 2)", () -> s.give(0, x, 2), -2);
            CHECK.stays(s, "give(0, 1, " + x + ")", () -> s.give(0, 1, x), -2);
        }
    }

    // ---- 14: undo ----

    static void p14_thereIsNone() {
        SpentTurns s = line();
        CHECK.stays(s, "undo()", () -> s.undo(), -5);
    }

    static void p14_noneAnyMore() {
        SpentTurns s = line();
        s.take(0, 1, 2);
        CHECK.due("undo()", s.undo(), 0);
        CHECK.stays(s, "undo() again", () -> s.undo(), -5);
        CHECK.due("left(0, 1, 2)", s.left(0, 1, 2), 2);
    }

    static void p14_theLatestFirst() {
        SpentTurns s = line();
        s.take(0, 1, 2);
        s.give(2, 1, 0);
        CHECK.due("undo()", s.undo(), 1);
        CHECK.due("left(2, 1, 0)", s.left(2, 1, 0), 2);
        CHECK.due("left(0, 1, 2)", s.left(0, 1, 2), 1);
    }

    static void p14_refusedOnesAreNone() {
        SpentTurns s = Check.town(LINE + "turn 0 1 2 uses 0;turn 2 1 0 uses 9;");
        s.take(0, 1, 2);
        s.give(2, 1, 0);
        s.take(0, 2, 1);
        CHECK.due("undo()", s.undo(), -5);
    }

    static void p14_ofSixty() {
        SpentTurns s = led(60);
        for (int i = 59; i >= 0; i--) CHECK.due("undo()", s.undo(), i);
        CHECK.due("undo() of none", s.undo(), -5);
        CHECK.due("left(0, 1, 2)", s.left(0, 1, 2), 2);
    }

    static void p14_noTown() {
        CHECK.due("undo()", new SpentTurns().undo(), -2);
    }

    // ---- 15: anew ----

    static void p15_none() {
        SpentTurns s = line();
        CHECK.stays(s, "anew()", () -> s.anew(), 0);
    }

    static void p15_sixty() {
        SpentTurns s = line();
        String ahead = Look.at(s);
        for (int i = 0; i < 30; i++) {
            s.give(0, 1, i % 2 * 2);
            s.take(2, 1, i % 2 * 2);
            s.give(2, 1, i % 2 * 2);
        }
        CHECK.due("anew()", s.anew(), 60);
        CHECK.due("all is as ahead", ahead.equals(Look.at(s)) ? 1 : 0, 1);
    }

    static void p15_twice() {
        SpentTurns s = line();
        s.take(0, 1, 2);
        s.take(0, 1, 2);
        CHECK.due("anew()", s.anew(), 2);
        CHECK.due("anew() again", s.anew(), 0);
        CHECK.due("undo()", s.undo(), -5);
    }

    static void p15_withoutThoseTakenBack() {
        SpentTurns s = line();
        s.take(0, 1, 2);
        s.take(0, 1, 2);
        s.undo();
        CHECK.due("anew()", s.anew(), 1);
        CHECK.due("left(0, 1, 2)", s.left(0, 1, 2), 2);
    }

    static void p15_backToWhatALawSaid() {
        SpentTurns s = line();
        s.law(0, 1, 2, 7);
        s.take(0, 1, 2);
        s.anew();
        CHECK.due("left(0, 1, 2)", s.left(0, 1, 2), 7);
    }

    static void p15_noTown() {
        CHECK.due("anew()", new SpentTurns().anew(), -2);
    }

    // ---- 16: led ----

    static void p16_eachWhat() {
        SpentTurns s = line();
        s.take(2, 1, 0);
        s.give(1, 0, 1);
        int[][] due = {{2, 1, 0, 1}, {1, 0, 1, 0}};
        for (int i = 0; i < 2; i++)
            for (int what = 0; what < 4; what++) CHECK.due("led(" + i + ", " + what + ")", s.led(i, what), due[i][what]);
    }

    static void p16_noneSuch() {
        SpentTurns s = line();
        for (int what = 0; what < 4; what++) CHECK.due("led(0, ..) of none", s.led(0, what), -1);
        s.take(2, 1, 0);
        for (int i : new int[] {-1, 1, 59, 60, LOWEST, HIGHEST}) CHECK.due("led(" + i + ", 0)", s.led(i, 0), -1);
    }

    static void p16_theSixtieth() {
        SpentTurns s = led(60);
        CHECK.due("led(0, 3)", s.led(0, 3), 0);
        CHECK.due("led(59, 3)", s.led(59, 3), 1);
        CHECK.due("led(59, 2)", s.led(59, 2), 2);
        CHECK.due("led(60, 3)", s.led(60, 3), -1);
    }

    static void p16_takenBack() {
        SpentTurns s = line();
        s.take(2, 1, 0);
        s.give(1, 0, 1);
        s.undo();
        CHECK.due("led(1, 0)", s.led(1, 0), -1);
        CHECK.due("led(0, 0)", s.led(0, 0), 2);
        s.anew();
        CHECK.due("led(0, 0)", s.led(0, 0), -1);
    }

    static void p16_noSuchWhat() {
        SpentTurns s = line();
        s.take(2, 1, 0);
        for (int what : new int[] {-1, 4, LOWEST, HIGHEST}) {
            CHECK.due("led(0, " + what + ")", s.led(0, what), -2);
            CHECK.due("led(1, " + what + ")", s.led(1, what), -2);
        }
    }

    static void p16_noTown() {
        for (int what = -1; what < 5; what++) CHECK.due("led(0, " + what + ")", new SpentTurns().led(0, what), -2);
    }

    // ---- 61: count ----

    static void p61_leastTown() {
        int[] due = {2, 0, 0, 0, 3, 0, 0, 0, 1, 0, 0};
        SpentTurns s = Check.town("town crossings 2 uses 0 half 3;");
        for (int what = 0; what <= 10; what++) CHECK.due("count(" + what + ")", s.count(what), due[what]);
    }

    static void p61_fullTown() {
        SpentTurns s = Check.town(fullStreets() + "errand 0 1 at 3;".repeat(6));
        for (int i = 0; i < 30; i++) {
            s.take(0, 1, 0);
            s.give(0, 1, 0);
        }
        for (int i = 0; i < 80; i++) s.feed(0, 0, 0, 0, 0);
        for (int slot = 0; slot < 4; slot++) s.row(slot, slot, 60);
        // degrees: 7 at 0 and at 7, 3 at 2 and 3, 2 at 1, 4, 5, 6
        int turns = 49 + 49 + 9 + 9 + 4 * 4;
        int[] due = {8, 14, turns, 3, 2, 6, 3 * turns - 28, 60, 21, 1600, 4};
        for (int what = 0; what <= 10; what++) CHECK.due("count(" + what + ")", s.count(what), due[what]);
    }

    static void p61_noOther() {
        SpentTurns s = line();
        for (int what : new int[] {-1, 11, 12, LOWEST, HIGHEST}) {
            CHECK.due("count(" + what + ")", s.count(what), -1);
            CHECK.due("count(" + what + ") of no town", new SpentTurns().count(what), -1);
        }
    }

    static void p61_noTown() {
        SpentTurns s = new SpentTurns();
        for (int what = 0; what <= 10; what++) CHECK.due("count(" + what + ")", s.count(what), 0);
    }

    static void p61_tapeAndSlotsWithoutATown() {
        SpentTurns s = new SpentTurns();
        s.feed(0, 0, 0, 0, 0);
        s.row(3, 0, 0);
        CHECK.due("count(9)", s.count(9), 20);
        CHECK.due("count(10)", s.count(10), 1);
    }

    static void p61_usesLeftTogether() {
        SpentTurns s = line();
        CHECK.due("count(6)", s.count(6), 2 + 2 + 1 + 1 + 1 + 1);
        s.take(0, 1, 2);
        CHECK.due("count(6) behind take", s.count(6), 7);
        s.give(0, 1, 0);
        s.give(0, 1, 0);
        CHECK.due("count(6) behind give", s.count(6), 9);
        CHECK.due("count(3)", s.count(3), 2);
        CHECK.due("count(4)", s.count(4), 1);
    }

    static void p61_slotsThatHaveARowOfNone() {
        SpentTurns s = line();
        s.row(0, 0, 0);
        s.row(0, 3, 60);
        s.row(3, 0, 0);
        s.row(2, 0, -1);
        CHECK.due("count(10)", s.count(10), 2);
    }

    static void p61_linesStayWhenStreetsAreBuilt() {
        SpentTurns s = line();
        s.build(0, 3, 2);
        s.build(0, 1, 0);
        CHECK.due("count(8)", s.count(8), 3);
        CHECK.due("count(1)", s.count(1), 2);
        CHECK.due("count(2)", s.count(2), 4);
    }
}
