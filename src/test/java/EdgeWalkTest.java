/** Promises 48 to 57 and terms VI: each boundary that a sentence names, in a test of its own. */
public final class EdgeWalkTest {
    private static final Check CHECK = new Check("EdgeWalkTest");
    private static final int LOWEST = Integer.MIN_VALUE;
    private static final int HIGHEST = Integer.MAX_VALUE;
    private static final int[] NONE_OF_FOUR = {-1, 4, 7, 8, 64, LOWEST, HIGHEST};
    private static final int[] NO_NUMBER_OF_STREETS = {-1, 9, 10, LOWEST, HIGHEST};
    private static final int[] NO_SLOT = {-1, 4, 5, LOWEST, HIGHEST};
    private static final int LAST_SEED = 2000000000;
    /** A line 0 1 2, and 3 alone. */
    private static final String PLENTY = "town crossings 4 uses 2 half 1;street 0 1 1;street 1 2 9;";
    private static final String SPENT = "town crossings 4 uses 0 half 0;street 0 1 1;street 1 2 9;";

    public static void main(String[] args) {
        CHECK.all(EdgeWalkTest.class);
        CHECK.close();
    }

    /** One street, to and fro. */
    private static SpentTurns toAndFro(int there, int back) {
        return Check.town("town crossings 4 uses 0 half 0;street 0 1 1;turn 0 1 0 uses " + there + ";turn 1 0 1 uses " + back + ";");
    }

    // ---- 48: walks ----

    static void p48_ofNoStreet() {
        CHECK.due("walks(3, 3, 0)", Check.town(SPENT).walks(3, 3, 0), 1);
        CHECK.due("walks(0, 1, 0)", Check.town(SPENT).walks(0, 1, 0), 0);
    }

    static void p48_ofOneStreetWithoutATurn() {
        CHECK.due("walks(0, 1, 1)", Check.town(SPENT).walks(0, 1, 1), 1);
        CHECK.due("walks(0, 0, 1)", Check.town(SPENT).walks(0, 0, 1), 0);
        CHECK.due("walks(0, 2, 2)", Check.town(SPENT).walks(0, 2, 2), 0);
    }

    static void p48_ofEightStreets() {
        CHECK.due("walks(0, 0, 8) of 4 and 3", toAndFro(4, 3).walks(0, 0, 8), 1);
        CHECK.due("walks(0, 1, 8) of 4 and 3", toAndFro(4, 3).walks(0, 1, 8), 0);
    }

    static void p48_noneOftenerThanItHasUsesLeft() {
        CHECK.due("walks(0, 0, 8) of 3 and 3", toAndFro(3, 3).walks(0, 0, 8), 0);
        CHECK.due("walks(0, 0, 8) of 4 and 2", toAndFro(4, 2).walks(0, 0, 8), 0);
        SpentTurns s = toAndFro(3, 3);
        s.give(0, 1, 0);
        CHECK.due("walks(0, 0, 8) with one given", s.walks(0, 0, 8), 1);
    }

    static void p48_justSoMany() {
        SpentTurns s = Check.town("town crossings 4 uses 1 half 0;street 0 1 1;street 1 2 1;street 0 2 1;");
        CHECK.due("walks(0, 2, 1)", s.walks(0, 2, 1), 1);
        CHECK.due("walks(0, 2, 2)", s.walks(0, 2, 2), 1);
        CHECK.due("walks(0, 2, 3)", s.walks(0, 2, 3), 0);
    }

    static void p48_noSuchNumber() {
        SpentTurns s = Check.town(PLENTY);
        for (int n : NO_NUMBER_OF_STREETS) CHECK.due("walks(0, 0, " + n + ")", s.walks(0, 0, n), -2);
    }

    static void p48_noSuchCrossings() {
        SpentTurns s = Check.town(PLENTY);
        for (int x : NONE_OF_FOUR) {
            CHECK.due("walks(" + x + ", 0, 1)", s.walks(x, 0, 1), -2);
            CHECK.due("walks(0, " + x + ", 1)", s.walks(0, x, 1), -2);
            CHECK.due("walks(" + x + ", " + x + ", 0)", s.walks(x, x, 0), -2);
        }
    }

    static void p48_takesNothing() {
        SpentTurns s = Check.town(PLENTY);
        CHECK.stays(s, "walks(0, 0, 4)", () -> s.walks(0, 0, 4), 1);
    }

    // ---- 49: sure ----

    static void p49_ofNoStreet() {
        CHECK.due("sure(3, 3, 0)", Check.town(SPENT).sure(3, 3, 0), 0b1000);
        CHECK.due("sure(0, 1, 0)", Check.town(SPENT).sure(0, 1, 0), 0);
    }

    static void p49_thereAreNone() {
        CHECK.due("sure(0, 2, 2)", Check.town(SPENT).sure(0, 2, 2), 0);
        CHECK.due("sure(0, 3, 8)", Check.town(PLENTY).sure(0, 3, 8), 0);
    }

    static void p49_onAllOfThem() {
        SpentTurns s = Check.town("town crossings 5 uses 1 half 0;street 0 1 1;street 0 2 1;street 1 3 1;street 2 3 1;street 3 4 1;");
        CHECK.due("walks(0, 4, 3)", s.walks(0, 4, 3), 2);
        CHECK.due("sure(0, 4, 3)", s.sure(0, 4, 3), 0b11001);
        s.take(0, 1, 3);
        CHECK.due("sure(0, 4, 3) of one", s.sure(0, 4, 3), 0b11101);
    }

    static void p49_ofEightStreets() {
        CHECK.due("sure(0, 0, 8)", toAndFro(4, 3).sure(0, 0, 8), 0b11);
    }

    static void p49_noSuchNumber() {
        SpentTurns s = Check.town(PLENTY);
        for (int n : NO_NUMBER_OF_STREETS) CHECK.due("sure(0, 0, " + n + ")", s.sure(0, 0, n), -2);
    }

    static void p49_noSuchCrossings() {
        SpentTurns s = Check.town(PLENTY);
        for (int x : NONE_OF_FOUR) {
            CHECK.due("sure(" + x + ", 0, 1)", s.sure(x, 0, 1), -2);
            CHECK.due("sure(0, " + x + ", 1)", s.sure(0, x, 1), -2);
        }
    }

    // ---- 50: ends ----

    static void p50_ofNoStreet() {
        CHECK.due("ends(3, 0)", Check.town(SPENT).ends(3, 0), 0b1000);
    }

    static void p50_thereAreNone() {
        CHECK.due("ends(3, 1)", Check.town(SPENT).ends(3, 1), 0);
        CHECK.due("ends(0, 2)", Check.town(SPENT).ends(0, 2), 0);
    }

    static void p50_severalOfOneAreOneBit() {
        SpentTurns s = Check.town("town crossings 4 uses 1 half 0;street 0 1 1;street 0 2 1;street 1 3 1;street 2 3 1;");
        CHECK.due("ends(0, 2)", s.ends(0, 2), 0b1000);
        CHECK.due("ends(0, 1)", s.ends(0, 1), 0b0110);
    }

    static void p50_ofEightStreets() {
        CHECK.due("ends(0, 8) of 4 and 3", toAndFro(4, 3).ends(0, 8), 0b01);
        CHECK.due("ends(0, 8) of 3 and 3", toAndFro(3, 3).ends(0, 8), 0);
    }

    static void p50_noneSuch() {
        SpentTurns s = Check.town(PLENTY);
        for (int n : NO_NUMBER_OF_STREETS) CHECK.due("ends(0, " + n + ")", s.ends(0, n), -2);
        for (int x : NONE_OF_FOUR) CHECK.due("ends(" + x + ", 0)", s.ends(x, 0), -2);
    }

    // ---- 51: wide ----

    static void p51_ofNoStreet() {
        CHECK.due("wide(3, 0)", Check.town(SPENT).wide(3, 0), 1);
    }

    static void p51_thereAreNone() {
        CHECK.due("wide(3, 1)", Check.town(SPENT).wide(3, 1), 0);
        CHECK.due("wide(0, 2)", Check.town(SPENT).wide(0, 2), 0);
    }

    static void p51_severalOfOneEndAreSeveral() {
        SpentTurns s = Check.town("town crossings 4 uses 1 half 0;street 0 1 1;street 0 2 1;street 1 3 1;street 2 3 1;");
        CHECK.due("wide(0, 2)", s.wide(0, 2), 2);
    }

    static void p51_ofEightStreets() {
        CHECK.due("wide(0, 8) of 4 and 3", toAndFro(4, 3).wide(0, 8), 1);
        // a star of seven: each second street is one of seven, the half turn there is taken thrice at most
        StringBuilder text = new StringBuilder("town crossings 8 uses 3 half 3;");
        for (int y = 1; y < 8; y++) text.append("street 0 " + y + " 1;");
        CHECK.due("wide(0, 8) of a star", Check.town(text.toString()).wide(0, 8), 7 * 7 * 7 * 7 - 7);
        CHECK.due("wide(0, 1) of a star", Check.town(text.toString()).wide(0, 1), 7);
    }

    static void p51_noneSuch() {
        SpentTurns s = Check.town(PLENTY);
        for (int n : NO_NUMBER_OF_STREETS) CHECK.due("wide(0, " + n + ")", s.wide(0, n), -2);
        for (int x : NONE_OF_FOUR) CHECK.due("wide(" + x + ", 0)", s.wide(x, 0), -2);
    }

    // ---- 52, 53: fits, gone ----

    private static void seenIs(SpentTurns s, int x, int fits, int gone, long... row) {
        for (int width = 0; width < 4; width++) {
            Check.row(s, width, width, row);
            CHECK.due("fits(" + width + ", " + x + ")", s.fits(width, x), fits);
            CHECK.due("gone(" + width + ", " + x + ")", s.gone(width, x), gone);
        }
    }

    /** The turns of one who goes 0 1 0 1 .. */
    private static long[] turnsToAndFro(int turns) {
        long[] row = new long[3 * turns];
        for (int i = 0; i < row.length; i++) row[i] = (i / 3 + i % 3) % 2;
        return row;
    }

    static void p52_noTurnSeen() {
        SpentTurns s = Check.town(SPENT);
        seenIs(s, 1, 2, 0b101);
        seenIs(s, 0, 1, 0b010);
        seenIs(s, 3, 0, 0);
    }

    static void p52_whateverIsLeft() {
        seenIs(Check.town(SPENT), 0, 1, 0b100, 0, 1, 2);
    }

    static void p52_onceEachTimeItIsTold() {
        SpentTurns s = Check.town(SPENT);
        seenIs(s, 0, 0, 0, 0, 1, 0, 0, 1, 0);
        seenIs(s, 0, 1, 0b001, 0, 1, 0, 1, 0, 1, 0, 1, 0);
    }

    static void p52_justThese() {
        // 0 1 2 leaves out one of them, and 0 1 0 1 2 takes more
        seenIs(Check.town(SPENT), 0, 0, 0, 0, 1, 2, 2, 1, 0);
        seenIs(Check.town(SPENT), 0, 0, 0, 0, 1, 2, 0, 1, 0);
    }

    static void p52_inAnyOrder() {
        SpentTurns s = Check.town(SPENT);
        seenIs(s, 0, 1, 0b100, 0, 1, 0, 1, 0, 1, 0, 1, 2);
        seenIs(s, 0, 1, 0b100, 0, 1, 2, 1, 0, 1, 0, 1, 0);
    }

    static void p52_severalWalks() {
        SpentTurns s = Check.town("town crossings 3 uses 0 half 0;street 0 1 1;street 0 2 1;");
        seenIs(s, 0, 1, 0b001, 0, 1, 0, 1, 0, 2, 0, 2, 0);
        // 0 1 0 1 0 2 0 1 0 and 0 1 0 2 0 1 0 1 0 take the same turns
        seenIs(s, 0, 2, 0b001, 0, 1, 0, 0, 1, 0, 0, 1, 0, 0, 2, 0, 1, 0, 1, 1, 0, 2, 2, 0, 1);
    }

    static void p52_eightTurns() {
        seenIs(Check.town(SPENT), 0, 1, 0b010, turnsToAndFro(8));
    }

    static void p52_moreThanEight() {
        for (int turns = 9; turns <= 20; turns++) seenIs(Check.town(SPENT), 0, -2, -2, turnsToAndFro(turns));
    }

    static void p52_notThreeEach() {
        SpentTurns s = Check.town(SPENT);
        for (int n = 0; n <= 26; n++) {
            s.row(0, 0, n);
            for (int i = 0; i < n; i++) s.write(0, i, (i / 3 + i % 3) % 2);
            CHECK.due("fits of " + n + " numbers", s.fits(0, 0), n % 3 == 0 ? 1 : -2);
            CHECK.due("gone of " + n + " numbers", s.gone(0, 0) > 0 ? 1 : s.gone(0, 0), n % 3 == 0 ? 1 : -2);
        }
    }

    static void p52_aNumberIsNone() {
        SpentTurns s = Check.town(SPENT);
        for (int place = 0; place < 3; place++)
            for (long number : new long[] {-1, 4, 7, 8, 127, -128}) {
                long[] row = {0, 1, 0};
                row[place] = number;
                seenIs(s, 0, -2, -2, row);
            }
    }

    static void p52_aNumberFarBeyond() {
        SpentTurns s = Check.town(SPENT);
        for (long number : new long[] {1L << 32, 1L << 40, Long.MIN_VALUE, Long.MAX_VALUE, (1L << 32) + 1, -(1L << 32)}) {
            Check.row(s, 0, 3, 0, 1, number);
            CHECK.due("fits of " + number, s.fits(0, 0), -2);
            CHECK.due("gone of " + number, s.gone(0, 0), -2);
        }
    }

    static void p52_noTurn() {
        SpentTurns s = Check.town(SPENT);
        seenIs(s, 0, -2, -2, 0, 0, 0);
        seenIs(s, 0, -2, -2, 0, 1, 1);
        seenIs(s, 0, -2, -2, 0, 1, 3);
        seenIs(s, 0, -2, -2, 0, 2, 1);
        seenIs(s, 0, -2, -2, 0, 1, 0, 1, 0, 2);
    }

    static void p52_noSuchSlot() {
        for (int slot : NO_SLOT) CHECK.due("fits(" + slot + ", 0)", Check.town(SPENT).fits(slot, 0), -2);
    }

    static void p52_noSuchCrossing() {
        SpentTurns s = Check.town(SPENT);
        s.row(0, 0, 0);
        for (int x : NONE_OF_FOUR) CHECK.due("fits(0, " + x + ")", s.fits(0, x), -2);
    }

    static void p52_itHasNothing() {
        SpentTurns s = Check.town(SPENT);
        for (int slot = 0; slot < 4; slot++) CHECK.due("fits(" + slot + ", 0)", s.fits(slot, 0), -6);
        s.row(0, 0, -1);
        CHECK.due("fits(0, 0)", s.fits(0, 0), -6);
    }

    static void p52_noSuchCrossingAheadOfNothing() {
        for (int x : NONE_OF_FOUR) CHECK.due("fits(0, " + x + ")", Check.town(SPENT).fits(0, x), -2);
        CHECK.due("fits(0, 0) without a town", new SpentTurns().fits(0, 0), -2);
    }

    static void p52_takesNothing() {
        SpentTurns s = Check.town(PLENTY);
        Check.row(s, 0, 0, 0, 1, 2);
        CHECK.stays(s, "fits(0, 0)", () -> s.fits(0, 0), 1);
        CHECK.stays(s, "gone(0, 0)", () -> s.gone(0, 0), 0b100);
    }

    static void p53_noSuchSlot() {
        for (int slot : NO_SLOT) CHECK.due("gone(" + slot + ", 0)", Check.town(SPENT).gone(slot, 0), -2);
    }

    static void p53_noSuchCrossing() {
        SpentTurns s = Check.town(SPENT);
        s.row(0, 0, 0);
        for (int x : NONE_OF_FOUR) CHECK.due("gone(0, " + x + ")", s.gone(0, x), -2);
    }

    static void p53_itHasNothing() {
        for (int slot = 0; slot < 4; slot++) CHECK.due("gone(" + slot + ", 0)", Check.town(SPENT).gone(slot, 0), -6);
    }

    static void p53_noSuchCrossingAheadOfNothing() {
        for (int x : NONE_OF_FOUR) CHECK.due("gone(0, " + x + ")", Check.town(SPENT).gone(0, x), -2);
    }

    static void p53_noneEnd() {
        seenIs(Check.town(SPENT), 2, 0, 0, 0, 1, 2);
    }

    // ---- 54, 55: march, length ----

    private static void marchIs(SpentTurns s, int come, int length, long... row) {
        for (int width = 0; width < 4; width++) {
            Check.row(s, width, width, row);
            CHECK.due("march(" + width + ")", s.march(width), come);
            CHECK.due("length(" + width + ")", s.length(width), length);
        }
    }

    static void p54_ofNone() {
        marchIs(Check.town(SPENT), 0, 0);
    }

    static void p54_ofOne() {
        marchIs(Check.town(SPENT), 1, 0, 0);
        marchIs(Check.town(SPENT), 1, 0, 3);
    }

    static void p54_ofTwoWithoutATurn() {
        marchIs(Check.town(SPENT), 2, 9, 1, 2);
    }

    static void p54_noStreet() {
        marchIs(Check.town(PLENTY), 1, 0, 0, 2, 1);
        marchIs(Check.town(PLENTY), 3, 10, 0, 1, 2, 0);
    }

    static void p54_noStreetToItself() {
        marchIs(Check.town(PLENTY), 1, 0, 0, 0, 1);
        marchIs(Check.town(PLENTY), 2, 1, 0, 1, 1, 2);
    }

    static void p54_noUseLeft() {
        marchIs(Check.town(SPENT), 2, 1, 0, 1, 2);
        SpentTurns s = Check.town(PLENTY);
        s.take(0, 1, 0);
        marchIs(s, 2, 1, 0, 1, 0);
    }

    static void p54_asUsesGoInIt() {
        SpentTurns s = Check.town(PLENTY);
        // the half turn at 1 has one use, so that the second time it has none
        marchIs(s, 4, 3, 0, 1, 0, 1, 0);
        s.give(0, 1, 0);
        marchIs(s, 5, 4, 0, 1, 0, 1, 0);
    }

    static void p54_allSixty() {
        StringBuilder text = new StringBuilder("town crossings 8 uses 0 half 0;");
        for (int x = 0; x < 8; x++) text.append("street " + x + " " + (x + 1) % 8 + " 9;");
        for (int x = 0; x < 8; x++) text.append("turn " + x + " " + (x + 1) % 8 + " " + (x + 2) % 8 + " uses 9;");
        long[] row = new long[60];
        for (int i = 0; i < 60; i++) row[i] = i % 8;
        marchIs(Check.town(text.toString()), 60, 59 * 9, row);
        row[59] = 7;
        marchIs(Check.town(text.toString()), 59, 58 * 9, row);
    }

    static void p54_aNumberIsNone() {
        for (long number : new long[] {-1, 4, 8, 127, -128}) {
            marchIs(Check.town(PLENTY), -2, -2, number);
            marchIs(Check.town(PLENTY), -2, -2, 0, 2, 2, number);
        }
        SpentTurns s = Check.town(PLENTY);
        for (long number : new long[] {1L << 32, (1L << 32) + 1, Long.MIN_VALUE, Long.MAX_VALUE}) {
            Check.row(s, 0, 3, 0, number);
            CHECK.due("march of " + number, s.march(0), -2);
            CHECK.due("length of " + number, s.length(0), -2);
        }
    }

    static void p54_noSuchSlot() {
        for (int slot : NO_SLOT) CHECK.due("march(" + slot + ")", Check.town(PLENTY).march(slot), -2);
    }

    static void p54_itHasNothing() {
        for (int slot = 0; slot < 4; slot++) CHECK.due("march(" + slot + ")", Check.town(PLENTY).march(slot), -6);
    }

    static void p54_noTownAheadOfNothing() {
        SpentTurns s = new SpentTurns();
        CHECK.due("march(0)", s.march(0), -2);
        s.row(0, 0, 0);
        CHECK.due("march(0) of a row of none", s.march(0), -2);
    }

    static void p54_takesNothing() {
        SpentTurns s = Check.town(PLENTY);
        Check.row(s, 0, 0, 0, 1, 2);
        CHECK.stays(s, "march(0)", () -> s.march(0), 3);
        CHECK.stays(s, "length(0)", () -> s.length(0), 10);
    }

    static void p55_aheadOfTheFirstAlone() {
        marchIs(Check.town(SPENT), 2, 9, 2, 1, 0);
    }

    static void p55_noSuchSlot() {
        for (int slot : NO_SLOT) CHECK.due("length(" + slot + ")", Check.town(PLENTY).length(slot), -2);
    }

    static void p55_itHasNothing() {
        for (int slot = 0; slot < 4; slot++) CHECK.due("length(" + slot + ")", Check.town(PLENTY).length(slot), -6);
    }

    static void p55_noTownAheadOfNothing() {
        CHECK.due("length(0)", new SpentTurns().length(0), -2);
    }

    // ---- 56: drawn ----

    /** The draws of terms VI, once more: the k-th (from 1) of n from a seed. */
    private static int draw(int seed, int k, int n) {
        java.math.BigInteger x = java.math.BigInteger.valueOf(seed);
        for (int i = 0; i < k; i++) {
            x = x.multiply(java.math.BigInteger.valueOf(1103515245L)).add(java.math.BigInteger.valueOf(12345));
            x = x.mod(java.math.BigInteger.valueOf(2147483648L));
        }
        return x.divide(java.math.BigInteger.valueOf(65536)).mod(java.math.BigInteger.valueOf(n)).intValue();
    }

    private static String star() {
        StringBuilder text = new StringBuilder("town crossings 8 uses 3 half 3;");
        for (int y = 1; y < 8; y++) text.append("street 0 " + y + " 1;");
        return text.toString();
    }

    static void p56_eachSeed() {
        SpentTurns s = Check.town(star());
        for (int seed : new int[] {0, 1, 2, 65535, 65536, 1073741824, 1999999999, LAST_SEED})
            CHECK.due("drawn(" + seed + ", 0, 1, 0)", s.drawn(seed, 0, 1, 0), 1 + draw(seed, 1, 7));
    }

    static void p56_aDrawForEachStreet() {
        SpentTurns s = Check.town(star());
        for (int seed : new int[] {0, 7, 12345, LAST_SEED}) {
            CHECK.due("drawn of 2", s.drawn(seed, 0, 2, 0), 0);
            CHECK.due("drawn of 3", s.drawn(seed, 0, 3, 0), 1 + draw(seed, 3, 7));
            CHECK.due("drawn of 5", s.drawn(seed, 0, 5, 0), 1 + draw(seed, 5, 7));
        }
    }

    static void p56_noSuchSeed() {
        SpentTurns s = Check.town(PLENTY);
        for (int seed : new int[] {-1, LAST_SEED + 1, LOWEST, HIGHEST})
            for (int what = 0; what < 3; what++) CHECK.due("drawn(" + seed + ", 0, 1, " + what + ")", s.drawn(seed, 0, 1, what), -2);
    }

    static void p56_noSuchCrossing() {
        SpentTurns s = Check.town(PLENTY);
        for (int x : NONE_OF_FOUR) CHECK.due("drawn(0, " + x + ", 0, 0)", s.drawn(0, x, 0, 0), -2);
    }

    static void p56_noStreetToGo() {
        SpentTurns s = Check.town(PLENTY);
        CHECK.due("where", s.drawn(5, 0, 0, 0), 0);
        CHECK.due("how many", s.drawn(5, 0, 0, 1), 0);
        CHECK.due("uses", s.drawn(5, 0, 0, 2), 8);
    }

    static void p56_noStreetThere() {
        SpentTurns s = Check.town(PLENTY);
        CHECK.due("where", s.drawn(5, 3, 20, 0), 3);
        CHECK.due("how many", s.drawn(5, 3, 20, 1), 0);
        CHECK.due("uses", s.drawn(5, 3, 20, 2), 8);
    }

    static void p56_oneStreetTakesNoTurn() {
        SpentTurns s = Check.town(SPENT);
        CHECK.due("where", s.drawn(5, 0, 20, 0), 1);
        CHECK.due("how many", s.drawn(5, 0, 20, 1), 1);
        CHECK.due("uses", s.drawn(5, 0, 20, 2), 0);
    }

    static void p56_tillThereIsNone() {
        SpentTurns s = toAndFro(9, 9);
        CHECK.due("how many of 19", s.drawn(5, 0, 19, 1), 19);
        CHECK.due("how many of 20", s.drawn(5, 0, 20, 1), 19);
        CHECK.due("where", s.drawn(5, 0, 20, 0), 1);
        CHECK.due("uses", s.drawn(5, 0, 20, 2), 0);
        CHECK.due("uses of 18", s.drawn(5, 0, 18, 2), 1);
    }

    static void p56_twentyStreets() {
        StringBuilder text = new StringBuilder("town crossings 3 uses 3 half 3;street 0 1 1;street 1 2 1;street 2 0 1;");
        for (int x = 0; x < 3; x++)
            for (int y = 0; y < 3; y++)
                for (int z = 0; z < 3; z++) if (x != y && y != z) text.append("turn " + x + " " + y + " " + z + " uses 9;");
        SpentTurns s = Check.town(text.toString());
        CHECK.due("how many", s.drawn(5, 0, 20, 1), 20);
        CHECK.due("uses", s.drawn(5, 0, 20, 2), 12 * 9 - 19);
    }

    static void p56_noSuchNumberOfStreets() {
        SpentTurns s = Check.town(PLENTY);
        for (int n : new int[] {-1, 21, LOWEST, HIGHEST}) CHECK.due("drawn(0, 0, " + n + ", 0)", s.drawn(0, 0, n, 0), -2);
    }

    static void p56_noSuchWhat() {
        SpentTurns s = Check.town(PLENTY);
        for (int what : new int[] {-1, 3, LOWEST, HIGHEST}) CHECK.due("drawn(0, 0, 0, " + what + ")", s.drawn(0, 0, 0, what), -2);
    }

    static void p56_allStays() {
        SpentTurns s = toAndFro(9, 9);
        CHECK.stays(s, "drawn(5, 0, 20, 2)", () -> s.drawn(5, 0, 20, 2), 0);
        CHECK.stays(s, "drawn(5, 0, 20, 2) again", () -> s.drawn(5, 0, 20, 2), 0);
    }

    // ---- 57: strays ----

    private static int straysOf(int seed, int m, int y) {
        int sum = 0;
        for (int i = 0; i < m; i++) if (1 + draw(seed + i, 1, 7) == y) sum++;
        return sum;
    }

    static void p57_ofOne() {
        SpentTurns s = Check.town(star());
        for (int y = 0; y < 8; y++) CHECK.due("strays(9, 1, 0, 1, " + y + ")", s.strays(9, 1, 0, 1, y), straysOf(9, 1, y));
    }

    static void p57_ofTwenty() {
        SpentTurns s = Check.town(star());
        int sum = 0;
        for (int y = 0; y < 8; y++) {
            CHECK.due("strays(9, 20, 0, 1, " + y + ")", s.strays(9, 20, 0, 1, y), straysOf(9, 20, y));
            sum += s.strays(9, 20, 0, 1, y);
        }
        CHECK.due("all of them", sum, 20);
    }

    static void p57_fromTheLastSeed() {
        SpentTurns s = Check.town(star());
        for (int y = 1; y < 8; y++) CHECK.due("strays(.., " + y + ")", s.strays(LAST_SEED, 20, 0, 1, y), straysOf(LAST_SEED, 20, y));
    }

    static void p57_eachOnUsesOfHisOwn() {
        SpentTurns s = toAndFro(9, 9);
        CHECK.due("strays(5, 20, 0, 20, 1)", s.strays(5, 20, 0, 20, 1), 20);
    }

    static void p57_noneEndsThere() {
        CHECK.due("strays(5, 20, 0, 20, 3)", Check.town(PLENTY).strays(5, 20, 0, 20, 3), 0);
    }

    static void p57_noSuchNumber() {
        SpentTurns s = Check.town(PLENTY);
        for (int m : new int[] {-1, 0, 21, LOWEST, HIGHEST}) CHECK.due("strays(0, " + m + ", 0, 1, 0)", s.strays(0, m, 0, 1, 0), -2);
    }

    static void p57_noSuchSeed() {
        SpentTurns s = Check.town(PLENTY);
        for (int seed : new int[] {-1, LAST_SEED + 1, LOWEST, HIGHEST}) CHECK.due("strays(" + seed + ", ..)", s.strays(seed, 1, 0, 1, 0), -2);
    }

    static void p57_noSuchNumberOfStreets() {
        SpentTurns s = Check.town(PLENTY);
        for (int n : new int[] {-1, 21, LOWEST, HIGHEST}) CHECK.due("strays(.., " + n + ", ..)", s.strays(0, 1, 0, n, 0), -2);
        CHECK.due("strays(.., 0, ..)", s.strays(0, 1, 0, 0, 0), 1);
        CHECK.due("strays(.., 20, ..)", s.strays(0, 1, 3, 20, 3), 1);
    }

    static void p57_noSuchCrossings() {
        SpentTurns s = Check.town(PLENTY);
        for (int x : NONE_OF_FOUR) {
            CHECK.due("strays from " + x, s.strays(0, 1, x, 1, 0), -2);
            CHECK.due("strays to " + x, s.strays(0, 1, 0, 1, x), -2);
        }
    }

    static void p57_allStays() {
        SpentTurns s = toAndFro(9, 9);
        CHECK.stays(s, "strays(5, 20, 0, 20, 1)", () -> s.strays(5, 20, 0, 20, 1), 20);
    }
}
