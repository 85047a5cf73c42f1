/** Promises 1 to 5 and terms I: each boundary that a sentence names, in a test of its own. */
public final class EdgeTextTest {
    private static final Check CHECK = new Check("EdgeTextTest");
    private static final int BLANKS = 0x20202020;
    private static final int LOWEST = Integer.MIN_VALUE;
    private static final int HIGHEST = Integer.MAX_VALUE;
    private static final String HEAD = "town crossings 4 uses 1 half 1;";
    private static final String WIDE = "town crossings 8 uses 1 half 1;";

    public static void main(String[] args) {
        CHECK.all(EdgeTextTest.class);
        CHECK.close();
    }

    private static void told(String text, int lines) {
        SpentTurns s = new SpentTurns();
        Check.tape(s, text);
        CHECK.due("town() of " + text, s.town(), lines);
        CHECK.due("fault(0) of " + text, s.fault(0), 0);
        CHECK.due("fault(1) of " + text, s.fault(1), -1);
    }

    private static void faulty(String text, int kind, int place) {
        SpentTurns s = new SpentTurns();
        Check.tape(s, text);
        CHECK.due("town() of " + text, s.town(), -4);
        CHECK.due("fault(0) of " + text, s.fault(0), kind);
        CHECK.due("fault(1) of " + text, s.fault(1), place);
    }

    /** The fault is at the last bytes of the text, so many. */
    private static void faultyLast(String text, int kind, int size) {
        faulty(text, kind, text.length() - size);
    }

    private static void blanks(SpentTurns s) {
        s.feed(BLANKS, BLANKS, BLANKS, BLANKS, BLANKS);
    }

    /** A feed of blanks with one other byte at a place. */
    private static void feedOne(SpentTurns s, int place, int sign) {
        int[] numbers = {BLANKS, BLANKS, BLANKS, BLANKS, BLANKS};
        int shift = 24 - 8 * (place % 4);
        numbers[place / 4] = BLANKS & ~(255 << shift) | sign << shift;
        s.feed(numbers[0], numbers[1], numbers[2], numbers[3], numbers[4]);
    }

    // ---- 1: a new object ----

    static void p01_noTown() {
        Look.noTown(CHECK, new SpentTurns());
    }

    static void p01_noByteOnTheTape() {
        SpentTurns s = new SpentTurns();
        CHECK.due("count(9)", s.count(9), 0);
        CHECK.due("end(1)", s.end(1), -1);
        CHECK.due("end(0)", s.end(0), 0);
    }

    static void p01_slotsHaveNothing() {
        SpentTurns s = new SpentTurns();
        CHECK.due("count(10)", s.count(10), 0);
        for (int slot = 0; slot < 4; slot++) CHECK.due("write", s.write(slot, 0, 0), -6);
    }

    static void p01_imagesHaveNothing() {
        SpentTurns s = new SpentTurns();
        for (int k = 0; k < 3; k++) CHECK.due("back", s.back(k), -6);
    }

    static void p01_eachObjectAlone() {
        SpentTurns one = Check.town(HEAD + "street 0 1 2;");
        one.keep(0);
        one.row(0, 0, 1);
        SpentTurns other = new SpentTurns();
        Look.noTown(CHECK, other);
        CHECK.due("back(0)", other.back(0), -6);
        CHECK.due("count(10)", other.count(10), 0);
        Check.tape(other, HEAD + "street 0 1 3;");
        other.town();
        other.take(0, 1, 0);
        CHECK.due("street(0, 1) of the one", one.street(0, 1), 2);
        CHECK.due("left(0, 1, 0) of the one", one.left(0, 1, 0), 1);
    }

    // ---- 2: feed ----

    static void p02_howManyItHas() {
        SpentTurns s = new SpentTurns();
        CHECK.due("feed", s.feed(0, 0, 0, 0, 0), 20);
        CHECK.due("feed", s.feed(-1, -1, -1, -1, -1), 40);
        s.end(7);
        CHECK.due("feed behind 7", s.feed(LOWEST, HIGHEST, 0, 0, 0), 27);
        CHECK.due("count(9)", s.count(9), 27);
    }

    static void p02_fourBytesOfEachTheHighestFirst() {
        for (int place = 0; place < 20; place++) {
            SpentTurns s = new SpentTurns();
            feedOne(s, place, '!');
            s.town();
            CHECK.due("fault(1) of a byte at " + place, s.fault(1), place);
        }
    }

    static void p02_bytesAbove127() {
        for (int place = 0; place < 20; place += 4) {
            SpentTurns s = new SpentTurns();
            feedOne(s, place, 255);
            s.town();
            CHECK.due("fault(1) of a number below 0 at " + place, s.fault(1), place);
        }
    }

    static void p02_justSixteenHundred() {
        SpentTurns s = new SpentTurns();
        for (int i = 1; i < 80; i++) blanks(s);
        CHECK.due("the 80th", s.feed(BLANKS, BLANKS, BLANKS, BLANKS, BLANKS), 1600);
    }

    static void p02_noneComeBeyond() {
        SpentTurns s = new SpentTurns();
        for (int i = 0; i < 80; i++) blanks(s);
        CHECK.stays(s, "the 81st", () -> s.feed(-1, -1, -1, -1, -1), -1);
        CHECK.due("count(9)", s.count(9), 1600);
        CHECK.due("town() of blanks alone", s.town(), 0);
    }

    static void p02_noneComeIfOneIsTooMany() {
        SpentTurns s = new SpentTurns();
        for (int i = 0; i < 80; i++) blanks(s);
        s.end(1581);
        CHECK.stays(s, "feed to 1601", () -> s.feed(-1, -1, -1, -1, -1), -1);
        CHECK.due("count(9)", s.count(9), 1581);
        CHECK.due("town() of blanks alone", s.town(), 0);
    }

    static void p02_sixteenHundredBehindACut() {
        SpentTurns s = new SpentTurns();
        for (int i = 0; i < 80; i++) blanks(s);
        s.end(1580);
        CHECK.due("feed to 1600", s.feed(BLANKS, BLANKS, BLANKS, BLANKS, -1), 1600);
        s.town();
        CHECK.due("fault(1)", s.fault(1), 1596);
    }

    static void p02_behindTheTape() {
        SpentTurns s = new SpentTurns();
        blanks(s);
        s.end(3);
        feedOne(s, 2, '!');
        s.town();
        CHECK.due("fault(1)", s.fault(1), 5);
    }

    static void p02_inPlaceOfWhatWasCut() {
        SpentTurns s = new SpentTurns();
        s.feed(-1, -1, -1, -1, -1);
        s.end(0);
        blanks(s);
        CHECK.due("town()", s.town(), 0);
    }

    static void p02_behindATown() {
        SpentTurns s = Check.town(HEAD);
        CHECK.due("feed", s.feed(BLANKS, BLANKS, BLANKS, BLANKS, BLANKS), 20);
    }

    // ---- 3: end ----

    static void p03_firstBytesAlone() {
        SpentTurns s = new SpentTurns();
        feedOne(s, 5, '!');
        CHECK.due("end(5)", s.end(5), 5);
        CHECK.due("count(9)", s.count(9), 5);
        CHECK.due("town()", s.town(), 0);
    }

    static void p03_oneMoreThanBlanks() {
        SpentTurns s = new SpentTurns();
        feedOne(s, 5, '!');
        CHECK.due("end(6)", s.end(6), 6);
        s.town();
        CHECK.due("fault(1)", s.fault(1), 5);
    }

    static void p03_none() {
        SpentTurns s = new SpentTurns();
        blanks(s);
        CHECK.due("end(0)", s.end(0), 0);
        CHECK.due("count(9)", s.count(9), 0);
    }

    static void p03_justAsManyAsItHas() {
        SpentTurns s = new SpentTurns();
        blanks(s);
        CHECK.stays(s, "end(20)", () -> s.end(20), 20);
    }

    static void p03_notSoMany() {
        SpentTurns s = new SpentTurns();
        blanks(s);
        CHECK.stays(s, "end(21)", () -> s.end(21), -1);
        CHECK.stays(s, "end(1600)", () -> s.end(1600), -1);
        CHECK.stays(s, "the highest", () -> s.end(HIGHEST), -1);
    }

    static void p03_notSoManyAnyMore() {
        SpentTurns s = new SpentTurns();
        blanks(s);
        s.end(5);
        CHECK.stays(s, "end(6)", () -> s.end(6), -1);
        CHECK.due("count(9)", s.count(9), 5);
    }

    static void p03_belowZero() {
        SpentTurns s = new SpentTurns();
        blanks(s);
        CHECK.stays(s, "end(-1)", () -> s.end(-1), -1);
        CHECK.stays(s, "the lowest", () -> s.end(LOWEST), -1);
        CHECK.due("count(9)", s.count(9), 20);
    }

    static void p03_fullTape() {
        SpentTurns s = new SpentTurns();
        for (int i = 0; i < 80; i++) blanks(s);
        CHECK.stays(s, "end(1601)", () -> s.end(1601), -1);
        CHECK.stays(s, "end(1600)", () -> s.end(1600), 1600);
        CHECK.due("end(1599)", s.end(1599), 1599);
    }

    // ---- 4: town ----

    static void p04_howManyLines() {
        told(HEAD, 1);
        told(HEAD + "street 0 1 2;", 2);
        told(HEAD + "street 0 1 2;street 0 1 2;turn 0 1 0 uses 1;turn 0 1 0 uses 1;errand 0 1 at 2;errand 0 1 at 2;", 7);
    }

    static void p04_asManyLinesAsTheTapeHolds() {
        told(HEAD + "street 0 1 2;".repeat(120), 121);
    }

    static void p04_textOfSixteenHundredBytes() {
        told(HEAD + " ".repeat(1600 - 31 - 13) + "street 0 1 2;", 2);
    }

    static void p04_faultAtTheEndOfAFullTape() {
        faulty(HEAD + " ".repeat(1600 - 31 - 12) + "street 0 1 2", 1, 1600);
    }

    static void p04_noLineOfAnEmptyTape() {
        told("", 0);
        SpentTurns s = Check.town(HEAD + "street 0 1 2;errand 0 1 at 2;");
        s.take(0, 1, 0);
        CHECK.due("town()", s.town(), 0);
        Look.noTown(CHECK, s);
    }

    static void p04_noLineOfBlanksAlone() {
        told(" ", 0);
        told("\n", 0);
        SpentTurns s = Check.town(HEAD + "street 0 1 2;errand 0 1 at 2;");
        Check.tape(s, " \n\n  \n");
        CHECK.due("town()", s.town(), 0);
        CHECK.due("count(9)", s.count(9), 0);
        Look.noTown(CHECK, s);
    }

    static void p04_tapeIsEmptyThen() {
        SpentTurns s = new SpentTurns();
        Check.tape(s, HEAD);
        CHECK.due("count(9)", s.count(9), 31);
        s.town();
        CHECK.due("count(9) then", s.count(9), 0);
        CHECK.due("end(1) then", s.end(1), -1);
        CHECK.due("town() again", s.town(), 0);
        CHECK.due("count(0)", s.count(0), 0);
    }

    static void p04_inPlaceOfAnother() {
        String small = "town crossings 3 uses 2 half 0;street 0 2 4;";
        SpentTurns s = Check.town(WIDE + "street 0 1 2;street 1 2 3;street 6 7 1;turn 0 1 2 uses 9;errand 0 7 at 5;");
        Check.tape(s, small);
        CHECK.due("town()", s.town(), 2);
        SpentTurns fresh = Check.town(small);
        CHECK.due("looks as told at first", Look.at(s).equals(Look.at(fresh)) ? 1 : 0, 1);
        CHECK.due("street(0, 1)", s.street(0, 1), 0);
        CHECK.due("beside(3)", s.beside(3), -2);
        CHECK.due("errand(0, 0)", s.errand(0, 0), -2);
    }

    static void p04_laterTextKnowsNoTurnOfAnother() {
        SpentTurns s = Check.town(HEAD + "street 0 1 2;turn 0 1 0 uses 7;turn 1 0 1 uses 0;");
        Check.tape(s, HEAD + "street 0 1 2;");
        s.town();
        CHECK.due("uses(0, 1, 0)", s.uses(0, 1, 0), 1);
        CHECK.due("uses(1, 0, 1)", s.uses(1, 0, 1), 1);
    }

    static void p04_laterTextKnowsNoStreetOfAFaultyOne() {
        SpentTurns s = new SpentTurns();
        Check.tape(s, HEAD + "street 0 1 2;turn 0 1 0 uses 7;errand 0 1 at 2;foo");
        s.town();
        Check.tape(s, HEAD);
        CHECK.due("town()", s.town(), 1);
        CHECK.due("street(0, 1)", s.street(0, 1), 0);
        CHECK.due("count(5)", s.count(5), 0);
    }

    static void p04_nothingUsed() {
        SpentTurns s = Check.town(HEAD + "street 0 1 2;");
        s.take(0, 1, 0);
        s.give(1, 0, 1);
        Check.tape(s, HEAD + "street 0 1 2;");
        s.town();
        CHECK.due("left(0, 1, 0)", s.left(0, 1, 0), 1);
        CHECK.due("left(1, 0, 1)", s.left(1, 0, 1), 1);
        CHECK.due("count(7)", s.count(7), 0);
        CHECK.due("undo()", s.undo(), -5);
    }

    static void p04_allStaysWithAFault() {
        SpentTurns s = Check.town(HEAD + "street 0 1 2;street 1 2 3;turn 0 1 2 uses 4;errand 0 2 at 7;");
        s.take(0, 1, 2);
        s.keep(1);
        Check.row(s, 2, 0, 0, 1, 2);
        String ahead = withoutFault(s);
        Check.tape(s, "town crossings 2 uses 0 half 0;street 0 1 9;errand 1 0 at 3;street 0 0");
        CHECK.due("town()", s.town(), -4);
        CHECK.due("fault(0)", s.fault(0), 2);
        CHECK.due("all stays", ahead.equals(withoutFault(s)) ? 1 : 0, 1);
        s.town();
        CHECK.due("image 1 stays", s.back(1), 0);
        CHECK.due("left(0, 1, 2) of the image", s.left(0, 1, 2), 3);
    }

    /** The look behind the first line, which tells the fault and the tape. */
    private static String withoutFault(SpentTurns s) {
        String look = Look.at(s);
        return look.substring(look.indexOf('\n'));
    }

    static void p04_noTownStaysNoneWithAFault() {
        SpentTurns s = new SpentTurns();
        Check.tape(s, HEAD + "street 0 1 2;foo");
        CHECK.due("town()", s.town(), -4);
        Look.noTown(CHECK, s);
    }

    static void p04_eachTextStandsAloneBehindAFault() {
        SpentTurns s = new SpentTurns();
        Check.tape(s, "town crossings 9");
        s.town();
        CHECK.due("count(9)", s.count(9), 0);
        Check.tape(s, HEAD);
        CHECK.due("town()", s.town(), 1);
    }

    static void p04_slotsAndImagesStay() {
        SpentTurns s = Check.town(HEAD + "street 0 1 2;");
        s.keep(0);
        Check.row(s, 3, 1, 0, 1);
        Check.tape(s, WIDE + "street 0 1 5;");
        s.town();
        CHECK.due("count(10)", s.count(10), 1);
        CHECK.due("length(3)", s.length(3), 5);
        CHECK.due("back(0)", s.back(0), 0);
        CHECK.due("street(0, 1)", s.street(0, 1), 2);
    }

    // ---- 4, by terms I: bounds of numbers ----

    static void p04_crossings2To8() {
        for (int n = 0; n <= 12; n++) {
            if (n >= 2 && n <= 8) told("town crossings " + n + " uses 1 half 1;", 1);
            else faulty("town crossings " + n + " uses 1 half 1;", 2, 15);
        }
    }

    static void p04_usesUpTo3() {
        for (int n = 0; n <= 12; n++) {
            if (n <= 3) told("town crossings 4 uses " + n + " half 1;", 1);
            else faulty("town crossings 4 uses " + n + " half 1;", 2, 22);
        }
    }

    static void p04_halfUpTo3() {
        for (int n = 0; n <= 12; n++) {
            if (n <= 3) told("town crossings 4 uses 1 half " + n + ";", 1);
            else faulty("town crossings 4 uses 1 half " + n + ";", 2, 29);
        }
    }

    static void p04_crossingsLess1OfAStreet() {
        for (int n = 2; n <= 8; n++) {
            String head = "town crossings " + n + " uses 1 half 1;";
            told(head + "street 0 " + (n - 1) + " 1;", 2);
            told(head + "street " + (n - 1) + " 0 1;", 2);
            faultyLast(head + "street " + n + " 0 1;", 2, 6);
            faultyLast(head + "street 0 " + n + " 1;", 2, 4);
        }
    }

    static void p04_crossingsLess1OfATurn() {
        for (int n = 2; n <= 8; n++) {
            String head = "town crossings " + n + " uses 1 half 1;street 0 " + (n - 1) + " 1;turn ";
            told(head + "0 " + (n - 1) + " 0 uses 1;", 3);
            told(head + (n - 1) + " 0 " + (n - 1) + " uses 1;", 3);
            faultyLast(head + n + " 0 0 uses 1;", 2, 13);
            faultyLast(head + "0 " + n + " 0 uses 1;", 2, 11);
            faultyLast(head + "0 " + (n - 1) + " " + n + " uses 1;", 2, 9);
        }
    }

    static void p04_crossingsLess1OfAnErrand() {
        for (int n = 2; n <= 8; n++) {
            String head = "town crossings " + n + " uses 1 half 1;errand ";
            told(head + "0 " + (n - 1) + " at 1;", 2);
            told(head + (n - 1) + " 0 at 1;", 2);
            faultyLast(head + n + " 0 at 1;", 2, 9);
            faultyLast(head + "0 " + n + " at 1;", 2, 7);
        }
    }

    static void p04_streetOfUnlikeOnes() {
        for (int x = 0; x < 4; x++) faultyLast(HEAD + "street " + x + " " + x + " 1;", 2, 4);
    }

    static void p04_streetOneToNineLong() {
        for (int n = 0; n <= 12; n++) {
            if (n >= 1 && n <= 9) told(HEAD + "street 0 1 " + n + ";", 2);
            else faulty(HEAD + "street 0 1 " + n + ";", 2, 42);
        }
    }

    static void p04_laterStreetStrikes() {
        SpentTurns s = Check.town(HEAD + "street 0 1 9;street 0 1 4;");
        CHECK.due("street(0, 1)", s.street(0, 1), 4);
        CHECK.due("street(1, 0)", s.street(1, 0), 4);
        CHECK.due("count(1)", s.count(1), 1);
    }

    static void p04_laterStreetStrikesTheOtherWayAbout() {
        SpentTurns s = Check.town(HEAD + "street 0 1 9;street 1 0 4;");
        CHECK.due("street(0, 1)", s.street(0, 1), 4);
        CHECK.due("street(1, 0)", s.street(1, 0), 4);
        CHECK.due("count(1)", s.count(1), 1);
    }

    static void p04_turnByAStreetToTheSecond() {
        faultyLast(HEAD + "turn 0 1 0 uses 1;", 2, 11);
        faultyLast(HEAD + "street 1 2 1;turn 0 1 2 uses 1;", 2, 11);
        faultyLast(HEAD + "turn 0 0 0 uses 1;", 2, 11);
        faultyLast(HEAD + "street 0 1 1;turn 0 0 1 uses 1;", 2, 11);
    }

    static void p04_turnByAStreetToTheThird() {
        faultyLast(HEAD + "street 0 1 1;turn 0 1 2 uses 1;", 2, 9);
        faultyLast(HEAD + "street 0 1 1;turn 0 1 1 uses 1;", 2, 9);
        faultyLast(HEAD + "street 0 1 1;street 0 2 1;turn 0 1 2 uses 1;", 2, 9);
    }

    static void p04_turnByStreetsToldAhead() {
        faulty(HEAD + "turn 0 1 0 uses 1;street 0 1 1;", 2, 38);
        faulty(HEAD + "street 0 1 1;turn 0 1 2 uses 1;street 1 2 1;", 2, 53);
        told(HEAD + "street 1 2 1;street 0 1 1;turn 0 1 2 uses 1;", 4);
    }

    static void p04_turnOfUsesUpTo9() {
        for (int n = 0; n <= 12; n++) {
            String text = HEAD + "street 0 1 1;turn 0 1 0 uses " + n + ";";
            if (n <= 9) told(text, 3);
            else faulty(text, 2, 60);
        }
    }

    static void p04_laterTurnStrikes() {
        SpentTurns s = Check.town(HEAD + "street 0 1 1;turn 0 1 0 uses 9;turn 0 1 0 uses 0;");
        CHECK.due("uses(0, 1, 0)", s.uses(0, 1, 0), 0);
        CHECK.due("left(0, 1, 0)", s.left(0, 1, 0), 0);
        CHECK.due("uses(1, 0, 1)", s.uses(1, 0, 1), 1);
    }

    static void p04_laterStreetLeavesItsTurns() {
        SpentTurns s = Check.town(HEAD + "street 0 1 1;turn 0 1 0 uses 9;street 0 1 2;");
        CHECK.due("uses(0, 1, 0)", s.uses(0, 1, 0), 9);
    }

    static void p04_errandOfUnlikeOnes() {
        for (int x = 0; x < 4; x++) faultyLast(HEAD + "errand " + x + " " + x + " at 1;", 2, 7);
    }

    static void p04_hoursUpTo23() {
        for (int n = 0; n <= 26; n++) {
            if (n <= 23) told(HEAD + "errand 0 1 at " + n + ";", 2);
            else faulty(HEAD + "errand 0 1 at " + n + ";", 2, 45);
        }
    }

    static void p04_errandWithoutAStreet() {
        told(HEAD + "errand 0 1 at 1;", 2);
    }

    // ---- 4, by terms I: too many ----

    private static String fourteen() {
        StringBuilder text = new StringBuilder(WIDE);
        for (int y = 1; y < 8; y++) text.append("street 0 ").append(y).append(" 5;");
        for (int y = 2; y < 8; y++) text.append("street 1 ").append(y).append(" 5;");
        return text.append("street 2 3 5;").toString();
    }

    static void p04_fourteenStreets() {
        told(fourteen(), 15);
        CHECK.due("count(1)", Check.town(fourteen()).count(1), 14);
    }

    static void p04_fifteenthStreetAtItsLength() {
        faultyLast(fourteen() + "street 6 7 5;", 3, 2);
        faultyLast(fourteen() + "street 6 7 5", 3, 1);
        faultyLast(fourteen() + "street 6 7 0009;street 0 0", 3, 15);
    }

    static void p04_oneOfFourteenAgain() {
        told(fourteen() + "street 2 3 9;", 16);
        told(fourteen() + "street 3 2 9;street 7 1 1;", 17);
    }

    static void p04_fifteenthOutOfItsBounds() {
        faultyLast(fourteen() + "street 6 7 0;", 2, 2);
        faultyLast(fourteen() + "street 6 7 10;", 2, 3);
    }

    static void p04_fifteenthWithoutItsLength() {
        faultyLast(fourteen() + "street 6 7;", 1, 1);
        faultyLast(fourteen() + "street 6 7", 1, 0);
    }

    static void p04_fifteenthOfLikeOnes() {
        faultyLast(fourteen() + "street 6 6 5;", 2, 4);
    }

    static void p04_sixErrands() {
        told(HEAD + "errand 0 1 at 3;".repeat(6), 7);
        CHECK.due("count(5)", Check.town(HEAD + "errand 0 1 at 3;".repeat(6)).count(5), 6);
    }

    static void p04_seventhErrandAtItsWord() {
        String six = HEAD + "errand 0 1 at 3;".repeat(6);
        faulty(six + "errand 0 1 at 3;", 3, six.length());
        faulty(six + "errand", 3, six.length());
        faulty(six + " errand 9 9 !", 3, six.length() + 1);
        faulty(six + "errands", 1, six.length());
    }

    static void p04_streetsBehindSixErrands() {
        told(HEAD + "errand 0 1 at 3;".repeat(6) + "street 0 1 2;", 8);
    }

    static void p04_errandsNumberedAsTheyStand() {
        SpentTurns s = Check.town(HEAD + "errand 0 1 at 23;errand 1 2 at 0;street 0 1 1;errand 2 3 at 0;");
        for (int e = 0; e < 3; e++) CHECK.due("errand(" + e + ", 0)", s.errand(e, 0), e);
        CHECK.due("errand(3, 0)", s.errand(3, 0), -2);
    }

    // ---- 4, by terms I: tokens and places ----

    static void p04_blanksAside() {
        told("\n town\n\ncrossings  4\nuses 1\nhalf\n1\n;\nstreet\n0\n1\n1\n;\n\n", 2);
        told("town crossings4uses1half1;street0 1 1;turn0 1 0uses1;errand0 1at1;", 4);
    }

    static void p04_noOtherByteIsABlank() {
        for (int sign = 0; sign < 256; sign++) {
            if (sign == 32 || sign == 10) told(HEAD + (char) sign, 1);
            else faulty(HEAD + (char) sign, 1, 31);
        }
    }

    static void p04_noOtherByteIsADigit() {
        for (int sign = 0; sign < 256; sign++) {
            String text = "town crossings 4 uses 1 half " + (char) sign + "1;";
            if (sign == 32 || sign == 10 || sign == '0') told(text, 1);
            else faulty(text, sign >= '1' && sign <= '9' ? 2 : 1, 29);
        }
    }

    static void p04_noOtherByteIsALetter() {
        for (int sign = 0; sign < 256; sign++) {
            String text = "town" + (char) sign + "crossings 4 uses 1 half 1;";
            boolean letter = sign >= 'a' && sign <= 'z';
            if (sign == 32 || sign == 10) told(text, 1);
            else faulty(text, 1, letter ? 0 : 4);
        }
    }

    static void p04_noOtherByteIsTheSign() {
        for (int sign = 0; sign < 256; sign++) {
            String text = "town crossings 4 uses 1 half 1" + (char) sign;
            boolean digit = sign >= '0' && sign <= '9';
            if (sign == ';') told(text, 1);
            else faulty(text, digit ? 2 : 1, digit ? 29 : sign == 32 || sign == 10 ? 31 : 30);
        }
    }

    static void p04_longestWord() {
        faulty("towncrossings 4 uses 1 half 1;", 1, 0);
        faulty("tow n crossings 4 uses 1 half 1;", 1, 0);
        faultyLast(HEAD + "streetstreet", 1, 12);
        faultyLast(HEAD + "stree", 1, 5);
    }

    static void p04_eachLetterOfAWord() {
        String[] lines = {HEAD, HEAD + "street 0 1 1;", HEAD + "street 0 1 1;turn 0 1 0 uses 1;", HEAD + "errand 0 1 at 1;"};
        for (String text : lines)
            for (int i = 0; i < text.length(); i++)
                if (Character.isLetter(text.charAt(i))) faulty(text.substring(0, i) + "q" + text.substring(i + 1), 1, wordAt(text, i));
    }

    private static int wordAt(String text, int i) {
        return i > 0 && Character.isLetter(text.charAt(i - 1)) ? wordAt(text, i - 1) : i;
    }

    static void p04_longestNumber() {
        faultyLast("town crossings 22", 2, 2);
        faultyLast(HEAD + "street 01 1;", 2, 2);
        faultyLast(HEAD + "street 0 11;", 2, 3);
        faultyLast(HEAD + "street 0 1 1 1;", 1, 2);
    }

    static void p04_zerosAhead() {
        told("town crossings 0000000000000000000000004 uses 01 half 00;street 00 03 009;", 2);
    }

    static void p04_numbersThatWouldWrap() {
        String[] huge = {"256", "65536", "4294967298", "4294967300", "18446744073709551618", "2147483648", "9".repeat(400)};
        for (String n : huge) {
            faulty("town crossings " + n + " uses 1 half 1;", 2, 15);
            faultyLast(HEAD + "errand 0 1 at " + n, 2, n.length());
        }
    }

    static void p04_townIsNoOtherLine() {
        faultyLast(HEAD + HEAD, 1, 31);
        faultyLast(HEAD + "street 0 1 1;" + HEAD, 1, 31);
    }

    static void p04_noOtherLineIsTheFirst() {
        faulty("street 0 1 1;" + HEAD, 1, 0);
        faulty("turn 0 1 0 uses 1;", 1, 0);
        faulty("\nerrand 0 1 at 1;", 1, 1);
        faulty("4", 1, 0);
        faulty(";" + HEAD, 1, 0);
    }

    static void p04_noSuchLine() {
        faultyLast(HEAD + "crossings", 1, 9);
        faultyLast(HEAD + "uses", 1, 4);
        faultyLast(HEAD + "at", 1, 2);
        faultyLast(HEAD + "0", 1, 1);
        faultyLast(HEAD + ";", 1, 1);
    }

    static void p04_eachWordAtItsPlace() {
        faulty("town uses 4", 1, 5);
        faulty("town crossings 4 half 1", 1, 17);
        faulty("town crossings 4 uses 1 uses 1", 1, 24);
        faultyLast(HEAD + "street 0 1 1;turn 0 1 0 at 1", 1, 4);
        faultyLast(HEAD + "errand 0 1 uses 1", 1, 6);
        faultyLast(HEAD + "street 0 1 uses", 1, 4);
    }

    static void p04_aNumberWhereOneIsDue() {
        faulty("town crossings ;", 1, 15);
        faulty("town crossings 4 uses half", 1, 22);
        faulty("town crossings 4 uses 1 half ;", 1, 29);
        faultyLast(HEAD + "street ;", 1, 1);
        faultyLast(HEAD + "street 0 ;", 1, 1);
        faultyLast(HEAD + "street 0 1 ;", 1, 1);
        faultyLast(HEAD + "turn ;", 1, 1);
        faultyLast(HEAD + "street 0 1 1;turn 0 ;", 1, 1);
        faultyLast(HEAD + "street 0 1 1;turn 0 1 ;", 1, 1);
        faultyLast(HEAD + "street 0 1 1;turn 0 1 0 uses ;", 1, 1);
        faultyLast(HEAD + "errand ;", 1, 1);
        faultyLast(HEAD + "errand 0 ;", 1, 1);
        faultyLast(HEAD + "errand 0 1 at ;", 1, 1);
    }

    static void p04_theSignBehindEachLine() {
        faulty("town crossings 4 uses 1 half 1 street 0 1 1;", 1, 31);
        faultyLast(HEAD + "street 0 1 1 street 0 1 1;", 1, 13);
        faultyLast(HEAD + "street 0 1 1;turn 0 1 0 uses 1 1;", 1, 2);
        faultyLast(HEAD + "errand 0 1 at 1 at", 1, 2);
        faultyLast(HEAD + ";", 1, 1);
    }

    static void p04_theEndAsPlace() {
        String[] cut = {"town", "town crossings", "town crossings 4", "town crossings 4 uses", "town crossings 4 uses 1",
            "town crossings 4 uses 1 half", "town crossings 4 uses 1 half 1", HEAD + "street", HEAD + "street 0",
            HEAD + "street 0 1", HEAD + "street 0 1 1", HEAD + "street 0 1 1;turn", HEAD + "street 0 1 1;turn 0",
            HEAD + "street 0 1 1;turn 0 1", HEAD + "street 0 1 1;turn 0 1 0", HEAD + "street 0 1 1;turn 0 1 0 uses",
            HEAD + "street 0 1 1;turn 0 1 0 uses 1", HEAD + "errand", HEAD + "errand 0", HEAD + "errand 0 1",
            HEAD + "errand 0 1 at", HEAD + "errand 0 1 at 1"};
        for (String text : cut) {
            faulty(text, 1, text.length());
            faulty(text + " \n ", 1, text.length() + 3);
        }
    }

    static void p04_firstFaultByItsPlace() {
        faulty("town crossings 9 uses 9 half 9 !", 2, 15);
        faulty("! town crossings 9", 1, 0);
        faulty(HEAD + "street 0 0 0", 2, 40);
        faulty(HEAD + "street 0 9 !", 2, 40);
        faulty(HEAD + "street 9 9 9", 2, 38);
        faulty(HEAD + "turn 0 1 9 uses 99", 2, 38);
    }

    static void p04_placeIsTheFirstByteOfAToken() {
        faulty("  \n wrong", 1, 4);
        faulty("town crossings    12345", 2, 18);
    }

    // ---- 5: fault ----

    static void p05_aheadOfAny() {
        SpentTurns s = new SpentTurns();
        CHECK.due("fault(0)", s.fault(0), 0);
        CHECK.due("fault(1)", s.fault(1), -1);
        Check.tape(s, "town crossings 9");
        CHECK.due("fault(0) with a faulty tape", s.fault(0), 0);
        CHECK.due("fault(1) with a faulty tape", s.fault(1), -1);
    }

    static void p05_anotherWhat() {
        SpentTurns s = new SpentTurns();
        for (int what : new int[] {-1, 2, 3, LOWEST, HIGHEST}) CHECK.due("fault(" + what + ")", s.fault(what), -1);
        Check.tape(s, "town crossings 9");
        s.town();
        for (int what : new int[] {-1, 2, 3, LOWEST, HIGHEST}) CHECK.due("fault(" + what + ")", s.fault(what), -1);
    }

    static void p05_eachFault() {
        faulty("!", 1, 0);
        faulty("town crossings 9", 2, 15);
        faultyLast(HEAD + "errand 0 1 at 3;".repeat(6) + "errand", 3, 6);
    }

    static void p05_withoutAFault() {
        SpentTurns s = Check.town(HEAD);
        CHECK.due("fault(0)", s.fault(0), 0);
        CHECK.due("fault(1)", s.fault(1), -1);
    }

    static void p05_ofTheLatest() {
        SpentTurns s = Check.town("town crossings 9");
        CHECK.due("fault(1)", s.fault(1), 15);
        Check.tape(s, "?");
        s.town();
        CHECK.due("fault(0) of the next", s.fault(0), 1);
        CHECK.due("fault(1) of the next", s.fault(1), 0);
        s.town();
        CHECK.due("fault(0) of none", s.fault(0), 0);
        CHECK.due("fault(1) of none", s.fault(1), -1);
    }

    static void p05_staysWhileOthersAreAsked() {
        SpentTurns s = Check.town("town crossings 9");
        s.keep(0);
        s.feed(1, 2, 3, 4, 5);
        s.back(0);
        CHECK.due("fault(0)", s.fault(0), 2);
        CHECK.due("fault(1)", s.fault(1), 15);
    }
}
