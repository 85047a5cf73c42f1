/** Promises 58 to 60 and 62 to 66: each boundary that a sentence names, in a test of its own. */
public final class EdgeChangeTest {
    private static final Check CHECK = new Check("EdgeChangeTest");
    private static final int LOWEST = Integer.MIN_VALUE;
    private static final int HIGHEST = Integer.MAX_VALUE;
    private static final int[] NONE_OF_FOUR = {-1, 4, 7, 8, 64, LOWEST, HIGHEST};
    private static final int[] NO_SLOT = {-1, 4, 5, LOWEST, HIGHEST};
    private static final int[] NO_IMAGE = {-1, 3, 4, LOWEST, HIGHEST};
    /** A line 0 1 2, and 3 alone. */
    private static final String LINE = "town crossings 4 uses 2 half 1;street 0 1 1;street 1 2 9;turn 0 1 2 uses 5;turn 0 1 0 uses 7;";
    private static final String ERRANDS = "errand 0 2 at 0;errand 2 1 at 23;";

    public static void main(String[] args) {
        CHECK.all(EdgeChangeTest.class);
        CHECK.close();
    }

    private static SpentTurns line() {
        return Check.town(LINE);
    }

    private static SpentTurns fourteen() {
        StringBuilder text = new StringBuilder("town crossings 8 uses 1 half 0;");
        for (int y = 1; y < 8; y++) text.append("street 0 ").append(y).append(" 5;");
        for (int y = 2; y < 8; y++) text.append("street 1 ").append(y).append(" 5;");
        return Check.town(text.append("street 2 3 5;").toString());
    }

    // ---- 58: build ----

    static void p58_shortestAndLongest() {
        SpentTurns s = line();
        CHECK.due("build(0, 2, 1)", s.build(0, 2, 1), 0);
        CHECK.due("street(2, 0)", s.street(2, 0), 1);
        CHECK.due("build(2, 0, 9)", s.build(2, 0, 9), 1);
        CHECK.due("street(0, 2)", s.street(0, 2), 9);
        CHECK.due("count(1)", s.count(1), 3);
    }

    static void p58_noSuchLength() {
        SpentTurns s = line();
        for (int n : new int[] {-1, 10, LOWEST, HIGHEST}) CHECK.stays(s, "build(0, 1, " + n + ")", () -> s.build(0, 1, n), -2);
    }

    static void p58_howLongItWas() {
        SpentTurns s = line();
        CHECK.due("build(1, 2, 3)", s.build(1, 2, 3), 9);
        CHECK.due("build(2, 1, 4)", s.build(2, 1, 4), 3);
        CHECK.due("build(1, 2, 4)", s.build(1, 2, 4), 4);
    }

    static void p58_newStreetsHaveUsesAsToldForAll() {
        SpentTurns s = line();
        s.build(2, 3, 4);
        int[][] turns = {{1, 2, 3, 2}, {3, 2, 1, 2}, {2, 3, 2, 1}, {3, 2, 3, 1}};
        for (int[] t : turns) {
            CHECK.due("uses", s.uses(t[0], t[1], t[2]), t[3]);
            CHECK.due("left", s.left(t[0], t[1], t[2]), t[3]);
        }
        CHECK.due("uses(0, 1, 2) as told for it", s.uses(0, 1, 2), 5);
        CHECK.due("uses(1, 2, 1) of the street beside", s.uses(1, 2, 1), 1);
    }

    static void p58_noneIs() {
        SpentTurns s = line();
        CHECK.due("build(0, 1, 0)", s.build(0, 1, 0), 1);
        CHECK.due("street(0, 1)", s.street(0, 1), 0);
        CHECK.due("uses(0, 1, 2)", s.uses(0, 1, 2), -1);
        CHECK.due("left(0, 1, 0)", s.left(0, 1, 0), -1);
        CHECK.due("uses(1, 2, 1)", s.uses(1, 2, 1), 1);
        CHECK.due("count(1)", s.count(1), 1);
        CHECK.due("count(2)", s.count(2), 2);
        CHECK.due("count(6)", s.count(6), 2);
        CHECK.due("beside(1)", s.beside(1), 0b100);
    }

    static void p58_noneIsWhereNoneWas() {
        SpentTurns s = line();
        CHECK.stays(s, "build(0, 2, 0)", () -> s.build(0, 2, 0), 0);
    }

    static void p58_noneIsAndAnewThen() {
        SpentTurns s = line();
        s.build(0, 1, 0);
        CHECK.due("build(0, 1, 6)", s.build(0, 1, 6), 0);
        CHECK.due("uses(0, 1, 2)", s.uses(0, 1, 2), 2);
        CHECK.due("left(0, 1, 0)", s.left(0, 1, 0), 1);
    }

    static void p58_theOtherStreetOfATurnAnew() {
        SpentTurns s = line();
        s.build(1, 2, 0);
        s.build(1, 2, 9);
        CHECK.due("uses(0, 1, 2)", s.uses(0, 1, 2), 2);
        CHECK.due("uses(0, 1, 0), which is none of its turns", s.uses(0, 1, 0), 7);
    }

    static void p58_anotherLengthLeavesItsTurns() {
        SpentTurns s = line();
        s.build(0, 1, 6);
        CHECK.due("uses(0, 1, 2)", s.uses(0, 1, 2), 5);
        CHECK.due("uses(0, 1, 0)", s.uses(0, 1, 0), 7);
    }

    static void p58_theLastStreet() {
        SpentTurns s = line();
        s.build(0, 1, 0);
        s.build(1, 2, 0);
        for (int what : new int[] {1, 2, 6}) CHECK.due("count(" + what + ")", s.count(what), 0);
        CHECK.due("way(0, 1)", s.way(0, 1), -1);
    }

    static void p58_somethingWasTaken() {
        SpentTurns s = line();
        s.take(0, 1, 2);
        CHECK.stays(s, "build(0, 1, 3)", () -> s.build(0, 1, 3), -5);
        CHECK.stays(s, "build(0, 1, 0)", () -> s.build(0, 1, 0), -5);
        CHECK.stays(s, "build(0, 3, 1)", () -> s.build(0, 3, 1), -5);
        s.undo();
        CHECK.due("build(0, 1, 3) behind undo", s.build(0, 1, 3), 1);
    }

    static void p58_somethingWasGiven() {
        SpentTurns s = line();
        s.give(0, 1, 2);
        CHECK.stays(s, "build(0, 1, 3)", () -> s.build(0, 1, 3), -5);
        s.anew();
        CHECK.due("build(0, 1, 3) behind anew", s.build(0, 1, 3), 1);
    }

    static void p58_takenAndGivenBackIsNotTakenBack() {
        SpentTurns s = line();
        s.take(0, 1, 2);
        s.give(0, 1, 2);
        CHECK.stays(s, "build(0, 1, 3)", () -> s.build(0, 1, 3), -5);
    }

    static void p58_aFifteenth() {
        SpentTurns s = fourteen();
        CHECK.stays(s, "build(6, 7, 1)", () -> s.build(6, 7, 1), -5);
    }

    static void p58_theFourteenth() {
        SpentTurns s = fourteen();
        CHECK.due("build(2, 3, 0)", s.build(2, 3, 0), 5);
        CHECK.due("build(6, 7, 1)", s.build(6, 7, 1), 0);
        CHECK.due("build(2, 3, 5)", s.build(2, 3, 5), -5);
        CHECK.due("count(1)", s.count(1), 14);
    }

    static void p58_oneOfFourteen() {
        SpentTurns s = fourteen();
        CHECK.due("build(1, 0, 2)", s.build(1, 0, 2), 5);
        CHECK.due("count(1)", s.count(1), 14);
    }

    static void p58_noNewOneOfFourteen() {
        SpentTurns s = fourteen();
        CHECK.stays(s, "build(6, 7, 0)", () -> s.build(6, 7, 0), 0);
    }

    static void p58_oneTwice() {
        SpentTurns s = line();
        for (int x = 0; x < 4; x++) {
            int twice = x;
            CHECK.stays(s, "build(" + x + ", " + x + ", 1)", () -> s.build(twice, twice, 1), -2);
        }
    }

    static void p58_noneSuch() {
        SpentTurns s = line();
        for (int x : NONE_OF_FOUR) {
            CHECK.stays(s, "build(" + x + ", 0, 1)", () -> s.build(x, 0, 1), -2);
            CHECK.stays(s, "build(0, " + x + ", 1)", () -> s.build(0, x, 1), -2);
        }
    }

    static void p58_noneSuchWithSomethingTaken() {
        SpentTurns s = line();
        s.take(0, 1, 2);
        CHECK.due("build(0, 4, 1)", s.build(0, 4, 1), -2);
        CHECK.due("build(0, 0, 1)", s.build(0, 0, 1), -2);
        CHECK.due("build(0, 1, 10)", s.build(0, 1, 10), -2);
    }

    // ---- 59: law ----

    static void p59_noneAndMost() {
        SpentTurns s = line();
        CHECK.due("law(0, 1, 2, 0)", s.law(0, 1, 2, 0), 5);
        CHECK.due("uses(0, 1, 2)", s.uses(0, 1, 2), 0);
        CHECK.due("left(0, 1, 2)", s.left(0, 1, 2), 0);
        CHECK.due("law(0, 1, 2, 9)", s.law(0, 1, 2, 9), 0);
        CHECK.due("uses(0, 1, 2)", s.uses(0, 1, 2), 9);
        CHECK.due("left(0, 1, 2)", s.left(0, 1, 2), 9);
        CHECK.due("law(0, 1, 2, 9) again", s.law(0, 1, 2, 9), 9);
    }

    static void p59_oneTurnAlone() {
        SpentTurns s = line();
        s.law(2, 1, 0, 6);
        CHECK.due("uses(0, 1, 2)", s.uses(0, 1, 2), 5);
        CHECK.due("count(3)", s.count(3), 2);
        CHECK.due("law(2, 1, 2, 3), a half turn", s.law(2, 1, 2, 3), 1);
    }

    static void p59_noSuchN() {
        SpentTurns s = line();
        for (int n : new int[] {-1, 10, LOWEST, HIGHEST}) CHECK.stays(s, "law(0, 1, 2, " + n + ")", () -> s.law(0, 1, 2, n), -2);
    }

    static void p59_somethingWasTaken() {
        SpentTurns s = line();
        s.take(0, 1, 0);
        CHECK.stays(s, "law(0, 1, 2, 3)", () -> s.law(0, 1, 2, 3), -5);
        s.undo();
        CHECK.due("law(0, 1, 2, 3) behind undo", s.law(0, 1, 2, 3), 5);
    }

    static void p59_somethingWasGiven() {
        SpentTurns s = line();
        s.give(0, 1, 0);
        CHECK.stays(s, "law(0, 1, 2, 3)", () -> s.law(0, 1, 2, 3), -5);
        s.anew();
        CHECK.due("law(0, 1, 2, 3) behind anew", s.law(0, 1, 2, 3), 5);
    }

    static void p59_noneSuch() {
        SpentTurns s = line();
        int[][] none = {{0, 2, 1}, {1, 1, 0}, {1, 0, 2}, {0, 1, 1}, {3, 3, 3}, {0, 3, 0}};
        for (int[] t : none) CHECK.stays(s, "law of no turn", () -> s.law(t[0], t[1], t[2], 1), -3);
        s.take(0, 1, 2);
        CHECK.stays(s, "law of no turn with something taken", () -> s.law(0, 2, 1, 1), -3);
    }

    static void p59_noSuchCrossings() {
        SpentTurns s = line();
        for (int x : NONE_OF_FOUR) {
            CHECK.stays(s, "law(" + x + ", 1, 2, 1)", () -> s.law(x, 1, 2, 1), -2);
            CHECK.stays(s, "law(0, " + x + ", 2, 1)", () -> s.law(0, x, 2, 1), -2);
            CHECK.stays(s, "law(0, 1, " + x + ", 1)", () -> s.law(0, 1, x, 1), -2);
        }
    }

    static void p59_noSuchNOfNoTurnWithSomethingTaken() {
        SpentTurns s = line();
        s.take(0, 1, 2);
        CHECK.stays(s, "law(0, 2, 1, 10)", () -> s.law(0, 2, 1, 10), -2);
        CHECK.stays(s, "law(0, 1, 2, -1)", () -> s.law(0, 1, 2, -1), -2);
    }

    // ---- 60: send ----

    static void p60_asItWas() {
        SpentTurns s = Check.town(LINE + ERRANDS);
        CHECK.due("send(0, 3, 2, 5)", s.send(0, 3, 2, 5), 2);
        CHECK.due("send(1, 3, 2, 5)", s.send(1, 3, 2, 5), 2321);
        CHECK.due("send(0, 3, 2, 5) again", s.send(0, 3, 2, 5), 532);
    }

    static void p60_theGreatest() {
        SpentTurns s = Check.town("town crossings 8 uses 0 half 0;errand 7 6 at 23;");
        CHECK.due("send(0, 0, 1, 0)", s.send(0, 0, 1, 0), 2376);
        CHECK.due("send(0, 0, 1, 0) again", s.send(0, 0, 1, 0), 1);
    }

    static void p60_firstAndLastHour() {
        SpentTurns s = Check.town(LINE + ERRANDS);
        s.send(0, 0, 2, 23);
        CHECK.due("errand(0, 2)", s.errand(0, 2), 23);
        s.send(0, 0, 2, 0);
        CHECK.due("errand(0, 2)", s.errand(0, 2), 0);
    }

    static void p60_noSuchHour() {
        SpentTurns s = Check.town(LINE + ERRANDS);
        for (int hour : new int[] {-1, 24, LOWEST, HIGHEST}) CHECK.stays(s, "send at " + hour, () -> s.send(0, 1, 2, hour), -2);
    }

    static void p60_noSuchErrand() {
        SpentTurns s = Check.town(LINE + ERRANDS);
        for (int e : new int[] {-1, 2, 5, 6, LOWEST, HIGHEST}) CHECK.stays(s, "send(" + e + ", ..)", () -> s.send(e, 1, 2, 3), -2);
        SpentTurns none = line();
        CHECK.stays(none, "send(0, ..) without errands", () -> none.send(0, 1, 2, 3), -2);
    }

    static void p60_theSixth() {
        SpentTurns s = Check.town(LINE + "errand 0 2 at 0;".repeat(6));
        CHECK.due("send(5, 1, 2, 3)", s.send(5, 1, 2, 3), 2);
        CHECK.stays(s, "send(6, 1, 2, 3)", () -> s.send(6, 1, 2, 3), -2);
    }

    static void p60_oneTwice() {
        SpentTurns s = Check.town(LINE + ERRANDS);
        CHECK.stays(s, "send(0, 1, 1, 3)", () -> s.send(0, 1, 1, 3), -2);
    }

    static void p60_noneSuch() {
        SpentTurns s = Check.town(LINE + ERRANDS);
        for (int x : NONE_OF_FOUR) {
            CHECK.stays(s, "send from " + x, () -> s.send(0, x, 1, 3), -2);
            CHECK.stays(s, "send to " + x, () -> s.send(0, 1, x, 3), -2);
        }
    }

    static void p60_withSomethingTaken() {
        SpentTurns s = Check.town(LINE + ERRANDS);
        s.take(0, 1, 2);
        CHECK.due("send(0, 3, 2, 5)", s.send(0, 3, 2, 5), 2);
    }

    // ---- 62: keep ----

    static void p62_eachImage() {
        SpentTurns s = line();
        for (int k = 0; k < 3; k++) {
            int image = k;
            s.law(0, 1, 2, k);
            CHECK.stays(s, "keep(" + k + ")", () -> s.keep(image), 0);
        }
        for (int k = 0; k < 3; k++) {
            s.back(k);
            CHECK.due("uses(0, 1, 2) of image " + k, s.uses(0, 1, 2), k);
        }
    }

    static void p62_noSuchImage() {
        SpentTurns s = line();
        for (int k : NO_IMAGE) CHECK.stays(s, "keep(" + k + ")", () -> s.keep(k), -2);
    }

    static void p62_inPlaceOfAnother() {
        SpentTurns s = Check.town(LINE + ERRANDS);
        s.take(0, 1, 2);
        s.keep(0);
        Check.tape(s, "town crossings 2 uses 3 half 2;");
        s.town();
        s.keep(0);
        s.town();
        s.back(0);
        int[] due = {2, 0, 0, 3, 2, 0, 0, 0, 1};
        for (int what = 0; what < 9; what++) CHECK.due("count(" + what + ")", s.count(what), due[what]);
    }

    static void p62_noTown() {
        SpentTurns s = new SpentTurns();
        CHECK.due("keep(0)", s.keep(0), 0);
        Check.tape(s, LINE);
        s.town();
        CHECK.due("back(0)", s.back(0), 0);
        Look.noTown(CHECK, s);
    }

    static void p62_noTownInPlaceOfOne() {
        SpentTurns s = line();
        s.keep(0);
        s.town();
        s.keep(0);
        Check.tape(s, LINE);
        s.town();
        CHECK.due("back(0)", s.back(0), 0);
        Look.noTown(CHECK, s);
    }

    // ---- 63: back ----

    static void p63_itHasNothing() {
        SpentTurns s = line();
        for (int k = 0; k < 3; k++) {
            int image = k;
            CHECK.stays(s, "back(" + k + ")", () -> s.back(image), -6);
        }
        s.keep(1);
        CHECK.due("back(0)", s.back(0), -6);
        CHECK.due("back(1)", s.back(1), 0);
        CHECK.due("back(2)", s.back(2), -6);
    }

    static void p63_noSuchImage() {
        SpentTurns s = line();
        s.keep(0);
        s.keep(2);
        for (int k : NO_IMAGE) CHECK.stays(s, "back(" + k + ")", () -> s.back(k), -2);
    }

    static void p63_allThatItKeeps() {
        SpentTurns s = Check.town(LINE + ERRANDS);
        for (int i = 0; i < 30; i++) {
            s.give(0, 1, 2);
            s.take(0, 1, 2);
        }
        String kept = Look.at(s);
        s.keep(0);
        s.anew();
        s.build(0, 1, 0);
        s.build(2, 3, 4);
        s.law(1, 2, 1, 8);
        s.send(0, 1, 3, 9);
        CHECK.due("back(0)", s.back(0), 0);
        CHECK.due("looks as it did", kept.equals(Look.at(s)) ? 1 : 0, 1);
        CHECK.due("take behind sixty", s.take(0, 1, 2), -5);
        CHECK.due("anew()", s.anew(), 60);
    }

    static void p63_whatWasTakenThen() {
        SpentTurns s = line();
        s.take(0, 1, 2);
        s.give(2, 1, 0);
        s.keep(0);
        s.anew();
        s.give(1, 2, 1);
        s.take(0, 1, 0);
        s.back(0);
        int[][] due = {{0, 1, 2, 1}, {2, 1, 0, 0}};
        for (int i = 0; i < 2; i++)
            for (int what = 0; what < 4; what++) CHECK.due("led(" + i + ", " + what + ")", s.led(i, what), due[i][what]);
        s.anew();
        CHECK.due("left(0, 1, 2)", s.left(0, 1, 2), 5);
        CHECK.due("left(2, 1, 0)", s.left(2, 1, 0), 2);
    }

    static void p63_imageStaysAsItIs() {
        SpentTurns s = line();
        s.keep(0);
        for (int i = 0; i < 3; i++) {
            s.take(0, 1, 2);
            s.take(0, 1, 2);
            CHECK.due("left(0, 1, 2)", s.left(0, 1, 2), 3);
            CHECK.due("back(0)", s.back(0), 0);
            CHECK.due("left(0, 1, 2) of the image", s.left(0, 1, 2), 5);
        }
    }

    static void p63_backAndBack() {
        SpentTurns s = line();
        s.keep(0);
        s.take(0, 1, 2);
        s.keep(1);
        s.back(0);
        CHECK.due("count(7)", s.count(7), 0);
        s.back(1);
        CHECK.due("count(7)", s.count(7), 1);
        CHECK.due("undo()", s.undo(), 0);
        CHECK.due("left(0, 1, 2)", s.left(0, 1, 2), 5);
    }

    static void p63_tapeSlotsAndFaultStay() {
        SpentTurns s = line();
        s.keep(0);
        Check.tape(s, "town crossings 9");
        s.town();
        s.feed(0, 0, 0, 0, 0);
        Check.row(s, 1, 0, 0, 1);
        s.back(0);
        CHECK.due("count(9)", s.count(9), 20);
        CHECK.due("count(10)", s.count(10), 1);
        CHECK.due("march(1)", s.march(1), 2);
        CHECK.due("fault(0)", s.fault(0), 2);
        CHECK.due("fault(1)", s.fault(1), 15);
    }

    // ---- 64: row ----

    static void p64_noneAndSixty() {
        SpentTurns s = line();
        CHECK.due("row(0, 0, 0)", s.row(0, 0, 0), 0);
        CHECK.due("write beyond none", s.write(0, 0, 1), -7);
        CHECK.due("row(0, 0, 60)", s.row(0, 0, 60), 0);
        CHECK.due("write the last", s.write(0, 59, 1), 0);
        CHECK.due("write beyond", s.write(0, 60, 1), -7);
    }

    static void p64_moreThanSixty() {
        SpentTurns s = line();
        Check.row(s, 0, 0, 0, 1);
        for (int n : new int[] {61, 62, HIGHEST}) CHECK.stays(s, "row(0, 0, " + n + ")", () -> s.row(0, 0, n), -2);
    }

    static void p64_belowZero() {
        SpentTurns s = line();
        Check.row(s, 0, 0, 0, 1);
        for (int n : new int[] {-1, -60, LOWEST}) CHECK.stays(s, "row(0, 1, " + n + ")", () -> s.row(0, 1, n), -3);
        CHECK.due("march(0)", s.march(0), 2);
        for (int n : new int[] {-1, LOWEST}) CHECK.stays(s, "row(2, 1, " + n + ")", () -> s.row(2, 1, n), -3);
        CHECK.due("write to nothing", s.write(2, 0, 1), -6);
    }

    static void p64_noSuchSlot() {
        SpentTurns s = line();
        for (int slot : NO_SLOT) {
            CHECK.stays(s, "row(" + slot + ", 0, 1)", () -> s.row(slot, 0, 1), -2);
            CHECK.stays(s, "row(" + slot + ", 0, -1)", () -> s.row(slot, 0, -1), -2);
        }
    }

    static void p64_noSuchWidth() {
        SpentTurns s = line();
        for (int width : new int[] {-1, 4, 8, LOWEST, HIGHEST}) {
            CHECK.stays(s, "row(0, " + width + ", 1)", () -> s.row(0, width, 1), -2);
            CHECK.stays(s, "row(0, " + width + ", -1)", () -> s.row(0, width, -1), -2);
        }
    }

    static void p64_eachSlotAndWidth() {
        SpentTurns s = line();
        for (int slot = 0; slot < 4; slot++)
            for (int width = 0; width < 4; width++) CHECK.due("row(" + slot + ", " + width + ", 3)", s.row(slot, width, 3), 0);
        CHECK.due("count(10)", s.count(10), 4);
    }

    static void p64_allZero() {
        SpentTurns s = line();
        s.row(0, 3, 60);
        for (int i = 0; i < 60; i++) s.write(0, i, -1);
        for (int width = 0; width < 4; width++) {
            s.row(0, width, 60);
            CHECK.due("march(0)", s.march(0), 1);
        }
    }

    static void p64_shorterAndLongerAgain() {
        SpentTurns s = line();
        Check.row(s, 0, 0, 0, 1, 2);
        s.row(0, 0, 1);
        CHECK.due("write beyond", s.write(0, 1, 1), -7);
        s.row(0, 0, 3);
        s.write(0, 1, 1);
        // 0 1 0: the third is 0 again
        CHECK.due("length(0)", s.length(0), 2);
    }

    static void p64_withoutATown() {
        CHECK.due("row(0, 0, 1)", new SpentTurns().row(0, 0, 1), 0);
    }

    // ---- 65: write ----

    static void p65_firstAndLast() {
        SpentTurns s = line();
        s.row(0, 0, 2);
        CHECK.due("write(0, 0, 2)", s.write(0, 0, 2), 0);
        CHECK.due("write(0, 1, 1)", s.write(0, 1, 1), 0);
        CHECK.due("length(0)", s.length(0), 9);
    }

    static void p65_noSuchNumber() {
        SpentTurns s = line();
        Check.row(s, 0, 0, 0, 1);
        for (int i : new int[] {-1, 2, 59, 60, LOWEST, HIGHEST}) CHECK.stays(s, "write(0, " + i + ", 3)", () -> s.write(0, i, 3), -7);
    }

    static void p65_ofARowOfNone() {
        SpentTurns s = line();
        s.row(0, 0, 0);
        CHECK.due("write(0, 0, 1)", s.write(0, 0, 1), -7);
    }

    static void p65_noSuchSlot() {
        for (int slot : NO_SLOT) CHECK.due("write(" + slot + ", 0, 1)", line().write(slot, 0, 1), -2);
    }

    static void p65_itHasNothing() {
        for (int slot = 0; slot < 4; slot++)
            for (int i = -1; i < 1; i++) CHECK.due("write(" + slot + ", " + i + ", 1)", line().write(slot, i, 1), -6);
    }

    /** Whether a number that was written is 1 behind its cut. */
    private static int isOne(int width, long v) {
        SpentTurns s = line();
        s.row(0, width, 2);
        s.write(0, 1, v);
        return s.march(0) == 2 ? 1 : 0;
    }

    static void p65_cutToItsWidth() {
        int[] bits = {8, 16, 32};
        for (int width = 0; width < 4; width++)
            for (int i = 0; i < 3; i++) {
                int due = width <= i ? 1 : 0;
                CHECK.due(width + ": up by " + bits[i] + " bits", isOne(width, (1L << bits[i]) + 1), due);
                CHECK.due(width + ": down by " + bits[i] + " bits", isOne(width, 1 - (1L << bits[i])), due);
                CHECK.due(width + ": by the bit below " + bits[i], isOne(width, (1L << bits[i] - 1) + 1), width < i ? 1 : 0);
            }
        for (int width = 0; width < 4; width++) {
            CHECK.due("1", isOne(width, 1), 1);
            CHECK.due("the lowest and 1", isOne(width, Long.MIN_VALUE + 1), width < 3 ? 1 : 0);
            CHECK.due("the highest", isOne(width, Long.MAX_VALUE), 0);
            CHECK.due("-1", isOne(width, -1), 0);
        }
    }

    static void p65_oneNumberAlone() {
        SpentTurns s = line();
        Check.row(s, 0, 0, 0, 1, 2);
        s.write(0, 1, 3);
        s.write(0, 1, 1);
        CHECK.due("march(0)", s.march(0), 3);
    }

    // ---- 66: paste ----

    static void p66_noSuchSlot() {
        SpentTurns s = line();
        s.row(0, 0, 1);
        for (int slot : NO_SLOT) {
            CHECK.stays(s, "paste of " + slot, () -> s.paste(slot, 0, 0, 0, 1), -2);
            CHECK.stays(s, "paste to " + slot, () -> s.paste(0, 0, slot, 0, 1), -2);
            CHECK.stays(s, "paste of nothing to " + slot, () -> s.paste(1, 0, slot, 0, 1), -2);
        }
    }

    static void p66_oneHasNothing() {
        SpentTurns s = line();
        s.row(0, 0, 1);
        CHECK.stays(s, "paste of nothing", () -> s.paste(1, 0, 0, 0, 1), -6);
        CHECK.stays(s, "paste to nothing", () -> s.paste(0, 0, 1, 0, 1), -6);
        CHECK.stays(s, "paste of nothing to itself", () -> s.paste(1, 0, 1, 0, 0), -6);
        CHECK.stays(s, "paste to nothing from beyond", () -> s.paste(0, -1, 1, 9, -1), -6);
    }

    static void p66_notOfOneWidth() {
        SpentTurns s = line();
        for (int slot = 0; slot < 4; slot++) s.row(slot, slot, 3);
        for (int slot = 0; slot < 4; slot++)
            for (int to = 0; to < 4; to++) {
                int from = slot;
                int target = to;
                CHECK.stays(s, "paste " + slot + " to " + to, () -> s.paste(from, 0, target, 0, 2), slot == to ? 0 : -8);
                CHECK.stays(s, "paste of none", () -> s.paste(from, 0, target, 0, 0), slot == to ? 0 : -8);
                CHECK.stays(s, "paste from beyond", () -> s.paste(from, -1, target, 0, 2), slot == to ? -7 : -8);
            }
    }

    static void p66_beyondTheFirstRow() {
        SpentTurns s = rows();
        CHECK.stays(s, "paste(0, 0, 1, 0, 5)", () -> s.paste(0, 0, 1, 0, 5), -7);
        CHECK.stays(s, "paste(0, 3, 1, 0, 2)", () -> s.paste(0, 3, 1, 0, 2), -7);
        CHECK.stays(s, "paste(0, 4, 1, 0, 1)", () -> s.paste(0, 4, 1, 0, 1), -7);
        CHECK.stays(s, "paste(0, 5, 1, 0, 0)", () -> s.paste(0, 5, 1, 0, 0), -7);
    }

    static void p66_beyondTheOtherRow() {
        SpentTurns s = rows();
        CHECK.stays(s, "paste(1, 0, 0, 3, 2)", () -> s.paste(1, 0, 0, 3, 2), -7);
        CHECK.stays(s, "paste(1, 0, 0, 0, 5)", () -> s.paste(1, 0, 0, 0, 5), -7);
        CHECK.stays(s, "paste(1, 0, 0, 4, 1)", () -> s.paste(1, 0, 0, 4, 1), -7);
        CHECK.stays(s, "paste(1, 0, 0, 5, 0)", () -> s.paste(1, 0, 0, 5, 0), -7);
    }

    /** Slot 0 has four numbers, slot 1 has six, of one width. */
    private static SpentTurns rows() {
        SpentTurns s = line();
        Check.row(s, 0, 1, 0, 1, 2, 1);
        Check.row(s, 1, 1, 1, 0, 1, 2, 3, 3);
        return s;
    }

    static void p66_aPlaceBelowZero() {
        SpentTurns s = rows();
        for (int i : new int[] {-1, LOWEST}) {
            CHECK.stays(s, "paste(0, " + i + ", 1, 0, 1)", () -> s.paste(0, i, 1, 0, 1), -7);
            CHECK.stays(s, "paste(0, 0, 1, " + i + ", 1)", () -> s.paste(0, 0, 1, i, 1), -7);
            CHECK.stays(s, "paste(0, " + i + ", 1, 0, 0)", () -> s.paste(0, i, 1, 0, 0), -7);
            CHECK.stays(s, "paste(0, 0, 1, " + i + ", 0)", () -> s.paste(0, 0, 1, i, 0), -7);
        }
    }

    static void p66_soManyBelowZero() {
        SpentTurns s = rows();
        for (int n : new int[] {-1, -4, LOWEST}) {
            CHECK.stays(s, "paste(0, 0, 1, 0, " + n + ")", () -> s.paste(0, 0, 1, 0, n), -7);
            CHECK.stays(s, "paste(0, 4, 1, 4, " + n + ")", () -> s.paste(0, 4, 1, 4, n), -7);
        }
    }

    static void p66_placesThatWouldWrap() {
        SpentTurns s = rows();
        CHECK.stays(s, "a place", () -> s.paste(0, HIGHEST, 1, 0, 1), -7);
        CHECK.stays(s, "the other place", () -> s.paste(0, 0, 1, HIGHEST, 1), -7);
        CHECK.stays(s, "so many", () -> s.paste(0, 1, 1, 1, HIGHEST), -7);
        CHECK.stays(s, "all", () -> s.paste(0, HIGHEST, 1, HIGHEST, HIGHEST), -7);
        CHECK.stays(s, "the lowest", () -> s.paste(0, LOWEST, 1, LOWEST, LOWEST), -7);
    }

    static void p66_none() {
        SpentTurns s = rows();
        CHECK.stays(s, "paste(0, 0, 1, 0, 0)", () -> s.paste(0, 0, 1, 0, 0), 0);
        CHECK.stays(s, "paste(0, 4, 1, 6, 0), at the ends", () -> s.paste(0, 4, 1, 6, 0), 0);
        s.row(2, 1, 0);
        CHECK.stays(s, "paste(2, 0, 2, 0, 0), of a row of none", () -> s.paste(2, 0, 2, 0, 0), 0);
        CHECK.stays(s, "paste(2, 0, 2, 0, 1), of a row of none", () -> s.paste(2, 0, 2, 0, 1), -7);
    }

    static void p66_all() {
        SpentTurns s = rows();
        CHECK.due("paste(0, 0, 1, 2, 4)", s.paste(0, 0, 1, 2, 4), 0);
        // 1 0 0 1 2 1
        CHECK.due("march(1)", s.march(1), 2);
        CHECK.due("march(0) stays", s.march(0), 4);
        CHECK.due("paste(1, 2, 0, 0, 4)", s.paste(1, 2, 0, 0, 4), 0);
        CHECK.due("march(0) as it was", s.march(0), 4);
    }

    static void p66_sixty() {
        SpentTurns s = line();
        s.row(0, 0, 60);
        s.row(1, 0, 60);
        s.write(0, 59, 9);
        CHECK.due("paste(0, 0, 1, 0, 60)", s.paste(0, 0, 1, 0, 60), 0);
        CHECK.due("march(1)", s.march(1), -2);
        CHECK.due("paste(0, 0, 1, 0, 61)", s.paste(0, 0, 1, 0, 61), -7);
    }

    static void p66_toItsOwnUpward() {
        SpentTurns s = line();
        Check.row(s, 0, 2, 0, 1, 2, 3, 3);
        CHECK.due("paste(0, 0, 0, 2, 3)", s.paste(0, 0, 0, 2, 3), 0);
        // 0 1 0 1 2, as they were
        CHECK.due("march(0)", s.march(0), 5);
        CHECK.due("length(0)", s.length(0), 1 + 1 + 1 + 9);
    }

    static void p66_toItsOwnDownward() {
        SpentTurns s = line();
        Check.row(s, 0, 2, 3, 3, 0, 1, 2);
        CHECK.due("paste(0, 2, 0, 0, 3)", s.paste(0, 2, 0, 0, 3), 0);
        // 0 1 2 1 2: as they were
        CHECK.due("length(0)", s.length(0), 1 + 9 + 9 + 9);
    }

    static void p66_toItsOwnPlace() {
        SpentTurns s = rows();
        CHECK.stays(s, "paste(0, 1, 0, 1, 3)", () -> s.paste(0, 1, 0, 1, 3), 0);
    }
}
