/** Promises 48 to 57: walks, walks that fit what was seen, marches, strangers. */
public final class WalkTest {
    private static final Check CHECK = new Check("WalkTest");

    public static void main(String[] args) {
        walks();
        walksByUses();
        fits();
        fitsWrong();
        march();
        marchWrong();
        strangers();
        strangersWrong();
        CHECK.close();
    }

    private static void walks() {
        SpentTurns s = Check.town(TownTest.TOWN);
        CHECK.due("walks(0, 4, 3)", s.walks(0, 4, 3), 1);
        CHECK.due("sure(0, 4, 3)", s.sure(0, 4, 3), 0b10111);
        CHECK.due("walks(0, 4, 2)", s.walks(0, 4, 2), 0);
        CHECK.due("sure(0, 4, 2)", s.sure(0, 4, 2), 0);
        CHECK.due("walks(0, 2, 2)", s.walks(0, 2, 2), 2);
        CHECK.due("sure(0, 2, 2)", s.sure(0, 2, 2), 0b101);
        CHECK.due("walks(0, 0, 0)", s.walks(0, 0, 0), 1);
        CHECK.due("sure(0, 0, 0)", s.sure(0, 0, 0), 1);
        CHECK.due("walks(0, 1, 0)", s.walks(0, 1, 0), 0);
        CHECK.due("ends(0, 0)", s.ends(0, 0), 1);
        CHECK.due("wide(0, 0)", s.wide(0, 0), 1);
        CHECK.due("ends(0, 1)", s.ends(0, 1), 0b1010);
        CHECK.due("wide(0, 1)", s.wide(0, 1), 2);
        CHECK.due("ends(0, 2)", s.ends(0, 2), 0b100);
        CHECK.due("wide(0, 2)", s.wide(0, 2), 2);
        CHECK.due("walks(1, 1, 2)", s.walks(1, 1, 2), 0);
        // 0 1 2 3 0, 0 3 2 1 0
        CHECK.due("walks(0, 0, 4)", s.walks(0, 0, 4), 2);
        CHECK.due("sure(0, 0, 4)", s.sure(0, 0, 4), 0b1111);
        for (int n : new int[] {-1, 9}) {
            CHECK.due("walks of " + n, s.walks(0, 1, n), -2);
            CHECK.due("sure of " + n, s.sure(0, 1, n), -2);
            CHECK.due("ends of " + n, s.ends(0, n), -2);
            CHECK.due("wide of " + n, s.wide(0, n), -2);
        }
        for (int x : new int[] {-1, 5}) {
            CHECK.due("walks from " + x, s.walks(x, 1, 2), -2);
            CHECK.due("walks to " + x, s.walks(1, x, 2), -2);
            CHECK.due("sure from " + x, s.sure(x, 1, 2), -2);
            CHECK.due("sure to " + x, s.sure(1, x, 2), -2);
            CHECK.due("ends from " + x, s.ends(x, 2), -2);
            CHECK.due("wide from " + x, s.wide(x, 2), -2);
        }
        CHECK.due("uses stay", s.count(6), 11);
    }

    private static void walksByUses() {
        // to and fro: behind n streets n - 1 half turns are taken, by turns at 1 and at 0
        SpentTurns s = Check.town("town crossings 2 uses 0 half 2;street 0 1 1;");
        CHECK.due("wide(0, 5)", s.wide(0, 5), 1);
        CHECK.due("ends(0, 5)", s.ends(0, 5), 2);
        CHECK.due("wide(0, 6)", s.wide(0, 6), 0);
        CHECK.due("ends(0, 6)", s.ends(0, 6), 0);
        s.give(0, 1, 0);
        CHECK.due("wide(0, 6) with one more", s.wide(0, 6), 1);
        CHECK.due("wide(0, 7) with one more", s.wide(0, 7), 0);
        s.take(0, 1, 0);
        s.take(0, 1, 0);
        CHECK.due("wide(0, 4) with one less", s.wide(0, 4), 0);
        SpentTurns eight = Check.town("town crossings 8 uses 3 half 3;street 0 1 1;street 0 2 1;");
        // of sixteen rows of end streets two would turn four times in one
        CHECK.due("wide(0, 8)", eight.wide(0, 8), 14);
        CHECK.due("walks(1, 0, 7)", eight.walks(1, 0, 7), 8);
        CHECK.due("sure(0, 0, 8)", eight.sure(0, 0, 8), 7);
    }

    private static void fits() {
        SpentTurns s = Check.town(TownTest.TOWN);
        Check.row(s, 0, 0, 0, 1, 2, 1, 2, 4);
        CHECK.due("fits(0, 0)", s.fits(0, 0), 1);
        CHECK.due("gone(0, 0)", s.gone(0, 0), 16);
        CHECK.due("fits(0, 3)", s.fits(0, 3), 0);
        CHECK.due("gone(0, 3)", s.gone(0, 3), 0);
        Check.row(s, 0, 3, 1, 2, 4, 0, 1, 2);
        CHECK.due("fits, whatever order", s.fits(0, 0), 1);
        Check.row(s, 1, 2, 3, 2, 4);
        CHECK.due("fits, whatever is left", s.fits(1, 3), 1);
        Check.row(s, 1, 1);
        CHECK.due("fits of no turn", s.fits(1, 0), 2);
        CHECK.due("gone of no turn", s.gone(1, 0), 0b1010);
        Check.row(s, 2, 0, 0, 1, 0, 1, 0, 1, 0, 1, 0);
        CHECK.due("fits of one twice", s.fits(2, 0), 1);
        CHECK.due("gone of one twice", s.gone(2, 0), 1);
        Check.row(s, 2, 0, 0, 1, 0, 1, 0, 1);
        CHECK.due("fits of each once", s.fits(2, 0), 1);
        CHECK.due("gone of each once", s.gone(2, 0), 2);
        CHECK.due("fits of each once from 1", s.fits(2, 1), 1);
        // around the four streets from any of them, by 0 1 2 3 0 1: from 0 only as the row stands
        Check.row(s, 3, 0, 0, 1, 2, 1, 2, 3, 2, 3, 0, 3, 0, 1);
        for (int x = 0; x < 4; x++) CHECK.due("fits of a round from " + x, s.fits(3, x), 1);
        CHECK.due("gone of a round", s.gone(3, 2), 1 << 3);
        Check.row(s, 3, 0, toAndFro(9));
        CHECK.due("fits of nine", s.fits(3, 0), -2);
        CHECK.due("gone of nine", s.gone(3, 0), -2);
        Check.row(s, 3, 0, toAndFro(8));
        CHECK.due("fits of eight", s.fits(3, 0), 1);
        CHECK.due("gone of eight", s.gone(3, 0), 2);
    }

    /** The turns of one who goes 0 1 0 1 .. */
    private static long[] toAndFro(int turns) {
        long[] row = new long[3 * turns];
        for (int i = 0; i < row.length; i++) row[i] = (i / 3 + i % 3) % 2;
        return row;
    }

    private static void fitsWrong() {
        SpentTurns s = Check.town(TownTest.TOWN);
        CHECK.due("fits of nothing", s.fits(0, 0), -6);
        CHECK.due("gone of nothing", s.gone(0, 0), -6);
        CHECK.due("fits of no slot", s.fits(4, 0), -2);
        CHECK.due("fits of no slot", s.fits(-1, 0), -2);
        CHECK.due("fits of nothing from no crossing", s.fits(0, 5), -2);
        CHECK.due("gone of nothing from no crossing", s.gone(0, -1), -2);
        Check.row(s, 0, 0, 0, 1);
        CHECK.due("fits of two numbers", s.fits(0, 0), -2);
        Check.row(s, 0, 0, 0, 1, 2, 1);
        CHECK.due("fits of four numbers", s.fits(0, 0), -2);
        Check.row(s, 0, 0, 0, 1, 5);
        CHECK.due("fits of no crossing", s.fits(0, 0), -2);
        Check.row(s, 0, 0, 0, 1, -1);
        CHECK.due("fits of -1", s.fits(0, 0), -2);
        Check.row(s, 0, 3, 0, 1, 4294967298L);
        CHECK.due("fits of a number beyond int", s.fits(0, 0), -2);
        Check.row(s, 0, 2, 0, 1, 4294967298L);
        CHECK.due("fits of a number that was cut", s.fits(0, 0), 1);
        Check.row(s, 0, 0, 0, 1, 3);
        CHECK.due("fits of no turn", s.fits(0, 0), -2);
        Check.row(s, 0, 0, 0, 0, 0);
        CHECK.due("gone of no turn", s.gone(0, 0), -2);
        CHECK.due("fits without a town", new SpentTurns().fits(0, 0), -2);
    }

    private static void marchIs(SpentTurns s, int come, int length, long... row) {
        Check.row(s, 1, 1, row);
        CHECK.due("march", s.march(1), come);
        CHECK.due("length", s.length(1), length);
    }

    private static void march() {
        SpentTurns s = Check.town(TownTest.TOWN);
        marchIs(s, 4, 5, 0, 1, 2, 4);
        marchIs(s, 2, 2, 0, 1, 4, 2);
        marchIs(s, 3, 4, 0, 3, 2, 4);
        marchIs(s, 6, 10, 0, 1, 2, 3, 0, 1, 2);
        marchIs(s, 1, 0, 0, 2);
        marchIs(s, 1, 0, 3, 3);
        marchIs(s, 1, 0, 4);
        marchIs(s, 0, 0);
        marchIs(s, 2, 2, 0, 1, 0);
        s.give(0, 1, 2);
        marchIs(s, 7, 12, 0, 1, 2, 3, 0, 1, 2);
        CHECK.due("uses stay", s.left(0, 1, 2), 2);
        SpentTurns bare = Check.town("town crossings 2 uses 0 half 0;street 0 1 7;");
        marchIs(bare, 2, 7, 1, 0);
    }

    private static void marchWrong() {
        SpentTurns s = Check.town(TownTest.TOWN);
        CHECK.due("march of nothing", s.march(0), -6);
        CHECK.due("length of nothing", s.length(0), -6);
        CHECK.due("march of no slot", s.march(4), -2);
        CHECK.due("length of no slot", s.length(-1), -2);
        marchIs(s, -2, -2, 0, 4, 5);
        marchIs(s, -2, -2, -1);
        marchIs(s, 1, 0, 65536);
        SpentTurns none = new SpentTurns();
        CHECK.due("march of nothing without a town", none.march(0), -2);
        CHECK.due("length of nothing without a town", none.length(0), -2);
    }

    /** From seed 0 the numbers drawn are 0, 21468, 9988, 22117, 3498: he goes 0 1 0 2 0 1, where no use is left. */
    private static void strangers() {
        SpentTurns s = Check.town("town crossings 5 uses 1 half 1;street 0 1 1;street 0 2 1;street 0 3 1;");
        int[] ends = {0, 1, 0, 2, 0, 1, 1, 1};
        for (int n = 0; n < ends.length; n++) {
            CHECK.due("drawn(0, 0, " + n + ", 0)", s.drawn(0, 0, n, 0), ends[n]);
            CHECK.due("drawn(0, 0, " + n + ", 1)", s.drawn(0, 0, n, 1), Math.min(n, 5));
            CHECK.due("drawn(0, 0, " + n + ", 2)", s.drawn(0, 0, n, 2), 12 - Math.max(0, Math.min(n, 5) - 1));
        }
        CHECK.due("drawn(0, 0, 20, 0)", s.drawn(0, 0, 20, 0), 1);
        CHECK.due("uses stay", s.count(6), 12);
        CHECK.due("drawn(0, 4, 9, 0): no street", s.drawn(0, 4, 9, 0), 4);
        CHECK.due("drawn(0, 4, 9, 1): no street", s.drawn(0, 4, 9, 1), 0);
        CHECK.due("drawn(2000000000, 0, 1, 0)", s.drawn(2000000000, 0, 1, 0), 2);
        CHECK.due("strays(0, 1, 0, 1, 1)", s.strays(0, 1, 0, 1, 1), 1);
        CHECK.due("strays(0, 4, 0, 1, 1)", s.strays(0, 4, 0, 1, 1), 1);
        CHECK.due("strays(0, 4, 0, 1, 3)", s.strays(0, 4, 0, 1, 3), 3);
        CHECK.due("strays(0, 4, 0, 1, 0)", s.strays(0, 4, 0, 1, 0), 0);
        CHECK.due("strays(5, 20, 3, 0, 3)", s.strays(5, 20, 3, 0, 3), 20);
        CHECK.due("strays(2000000000, 2, 0, 1, 1)", s.strays(2000000000, 2, 0, 1, 1), 1);
    }

    private static void strangersWrong() {
        SpentTurns s = Check.town(TownTest.TOWN);
        CHECK.due("drawn(-1, ..)", s.drawn(-1, 0, 1, 0), -2);
        CHECK.due("drawn(2000000001, ..)", s.drawn(2000000001, 0, 1, 0), -2);
        CHECK.due("drawn(0, 5, ..)", s.drawn(0, 5, 1, 0), -2);
        CHECK.due("drawn(0, 0, -1, ..)", s.drawn(0, 0, -1, 0), -2);
        CHECK.due("drawn(0, 0, 21, ..)", s.drawn(0, 0, 21, 0), -2);
        CHECK.due("drawn(.., 3)", s.drawn(0, 0, 1, 3), -2);
        CHECK.due("drawn(.., -1)", s.drawn(0, 0, 1, -1), -2);
        CHECK.due("strays(-1, ..)", s.strays(-1, 1, 0, 1, 0), -2);
        CHECK.due("strays(2000000001, ..)", s.strays(2000000001, 1, 0, 1, 0), -2);
        CHECK.due("strays of 0", s.strays(0, 0, 0, 1, 0), -2);
        CHECK.due("strays of 21", s.strays(0, 21, 0, 1, 0), -2);
        CHECK.due("strays from 5", s.strays(0, 1, 5, 1, 0), -2);
        CHECK.due("strays to 5", s.strays(0, 1, 0, 1, 5), -2);
        CHECK.due("strays by -1", s.strays(0, 1, 0, -1, 0), -2);
        CHECK.due("strays by 21", s.strays(0, 1, 0, 21, 0), -2);
    }
}
