/** Promises 6 to 16 and 61: what there is, what is left, taken, given back, taken back. */
public final class TownTest {
    private static final Check CHECK = new Check("TownTest");
    static final String TOWN = "town crossings 5 uses 1 half 0;street 0 1 2;street 1 2 2;street 2 3 3;street 0 3 1;"
            + "street 2 4 1;turn 3 2 4 uses 0;errand 0 4 at 9;errand 1 4 at 7;errand 0 4 at 7;";

    public static void main(String[] args) {
        streets();
        turns();
        corners();
        errands();
        counts();
        takeAndGive();
        refusals();
        sixty();
        CHECK.close();
    }

    private static void streets() {
        SpentTurns s = Check.town(TOWN);
        CHECK.due("street(0, 1)", s.street(0, 1), 2);
        CHECK.due("street(3, 2)", s.street(3, 2), 3);
        CHECK.due("street(1, 4)", s.street(1, 4), 0);
        CHECK.due("street(1, 1)", s.street(1, 1), -2);
        CHECK.due("street(5, 1)", s.street(5, 1), -2);
        CHECK.due("street(1, -1)", s.street(1, -1), -2);
        CHECK.due("beside(2)", s.beside(2), 0b11010);
        CHECK.due("beside(4)", s.beside(4), 0b00100);
        CHECK.due("beside(5)", s.beside(5), -2);
        CHECK.due("beside(-1)", s.beside(-1), -2);
        SpentTurns alone = Check.town("town crossings 2 uses 1 half 1;");
        CHECK.due("beside(0) of none", alone.beside(0), 0);
        SpentTurns twice = Check.town("town crossings 3 uses 2 half 1;street 0 1 2;street 1 2 2;turn 0 1 2 uses 7;street 1 0 8;");
        CHECK.due("a later street strikes", twice.street(0, 1), 8);
        CHECK.due("its turns are as told", twice.uses(0, 1, 2), 7);
    }

    private static void turns() {
        SpentTurns s = Check.town(TOWN);
        CHECK.due("uses(3, 2, 4)", s.uses(3, 2, 4), 0);
        CHECK.due("uses(4, 2, 3)", s.uses(4, 2, 3), 1);
        CHECK.due("uses(1, 0, 1)", s.uses(1, 0, 1), 0);
        CHECK.due("uses(0, 1, 3)", s.uses(0, 1, 3), -1);
        CHECK.due("uses(0, 2, 1)", s.uses(0, 2, 1), -1);
        CHECK.due("uses(0, 0, 1)", s.uses(0, 0, 1), -1);
        CHECK.due("uses(0, 1, 5)", s.uses(0, 1, 5), -2);
        CHECK.due("uses(-1, 1, 0)", s.uses(-1, 1, 0), -2);
        CHECK.due("uses(0, 8, 0)", s.uses(0, 8, 0), -2);
        CHECK.due("left(0, 1, 2)", s.left(0, 1, 2), 1);
        CHECK.due("left(0, 1, 3)", s.left(0, 1, 3), -1);
        CHECK.due("left(0, 1, 5)", s.left(0, 1, 5), -2);
        s.take(0, 1, 2);
        CHECK.due("left(0, 1, 2) behind take", s.left(0, 1, 2), 0);
        CHECK.due("left(2, 1, 0) is another", s.left(2, 1, 0), 1);
        CHECK.due("uses(0, 1, 2) behind take", s.uses(0, 1, 2), 1);
        SpentTurns told = Check.town("town crossings 2 uses 2 half 3;street 0 1 1;turn 0 1 0 uses 4;turn 0 1 0 uses 9;");
        CHECK.due("a later turn strikes", told.uses(0, 1, 0), 9);
        CHECK.due("half for half turns", told.uses(1, 0, 1), 3);
    }

    private static void corners() {
        SpentTurns s = Check.town("town crossings 4 uses 2 half 0;street 0 1 1;street 0 2 1;street 0 3 1;turn 1 0 2 uses 5;");
        CHECK.due("corner(0, 0)", s.corner(0, 0), 9);
        CHECK.due("corner(0, 1)", s.corner(0, 1), 6);
        CHECK.due("corner(0, 2)", s.corner(0, 2), 15);
        CHECK.due("corner(1, 0)", s.corner(1, 0), 1);
        CHECK.due("corner(1, 1)", s.corner(1, 1), 0);
        s.take(2, 0, 3);
        s.take(2, 0, 3);
        CHECK.due("corner(0, 0) behind take", s.corner(0, 0), 9);
        CHECK.due("corner(0, 1) behind take", s.corner(0, 1), 5);
        CHECK.due("corner(0, 2) behind take", s.corner(0, 2), 13);
        CHECK.due("corner(0, 3)", s.corner(0, 3), -2);
        CHECK.due("corner(0, -1)", s.corner(0, -1), -2);
        CHECK.due("corner(4, 0)", s.corner(4, 0), -2);
    }

    private static void errands() {
        SpentTurns s = Check.town(TOWN);
        CHECK.due("errand(1, 0)", s.errand(1, 0), 1);
        CHECK.due("errand(1, 1)", s.errand(1, 1), 4);
        CHECK.due("errand(0, 2)", s.errand(0, 2), 9);
        CHECK.due("errand(2, 2)", s.errand(2, 2), 7);
        CHECK.due("errand(3, 0)", s.errand(3, 0), -2);
        CHECK.due("errand(-1, 0)", s.errand(-1, 0), -2);
        CHECK.due("errand(0, 3)", s.errand(0, 3), -2);
        CHECK.due("errand(0, -1)", s.errand(0, -1), -2);
    }

    private static void counts() {
        SpentTurns s = Check.town(TOWN);
        Check.row(s, 3, 0);
        s.feed(1, 2, 3, 4, 5);
        s.take(0, 1, 2);
        s.give(3, 2, 4);
        s.give(3, 2, 4);
        int[] due = {5, 5, 22, 1, 0, 3, 12, 3, 10, 20, 1};
        for (int what = 0; what < due.length; what++) CHECK.due("count(" + what + ")", s.count(what), due[what]);
        CHECK.due("count(11)", s.count(11), -1);
        CHECK.due("count(-1)", s.count(-1), -1);
    }

    private static void takeAndGive() {
        SpentTurns s = Check.town(TOWN);
        CHECK.due("undo() of none", s.undo(), -5);
        CHECK.due("anew() of none", s.anew(), 0);
        CHECK.due("take(0, 1, 2)", s.take(0, 1, 2), 0);
        CHECK.due("take(0, 1, 2) again", s.take(0, 1, 2), -5);
        CHECK.due("give(3, 2, 4)", s.give(3, 2, 4), 1);
        CHECK.due("give(3, 2, 4) again", s.give(3, 2, 4), 2);
        CHECK.due("uses(3, 2, 4) behind give", s.uses(3, 2, 4), 0);
        int[][] led = {{0, 1, 2, 1}, {3, 2, 4, 0}, {3, 2, 4, 0}};
        for (int i = 0; i < 3; i++)
            for (int what = 0; what < 4; what++) CHECK.due("led(" + i + ", " + what + ")", s.led(i, what), led[i][what]);
        CHECK.due("led(3, 0)", s.led(3, 0), -1);
        CHECK.due("led(-1, 0)", s.led(-1, 0), -1);
        CHECK.due("led(0, 4)", s.led(0, 4), -2);
        CHECK.due("led(9, -1)", s.led(9, -1), -2);
        CHECK.due("undo()", s.undo(), 2);
        CHECK.due("left(3, 2, 4) behind undo", s.left(3, 2, 4), 1);
        CHECK.due("led(2, 0) behind undo", s.led(2, 0), -1);
        CHECK.due("undo() of the next", s.undo(), 1);
        CHECK.due("undo() of the take", s.undo(), 0);
        CHECK.due("left(0, 1, 2) behind undo", s.left(0, 1, 2), 1);
        CHECK.due("undo() of none any more", s.undo(), -5);
        s.take(0, 1, 2);
        s.give(0, 1, 2);
        s.give(0, 1, 2);
        CHECK.due("anew()", s.anew(), 3);
        CHECK.due("left(0, 1, 2) behind anew", s.left(0, 1, 2), 1);
        CHECK.due("count(7) behind anew", s.count(7), 0);
    }

    private static void refusals() {
        SpentTurns s = Check.town(TOWN);
        CHECK.due("take(0, 1, 3)", s.take(0, 1, 3), -3);
        CHECK.due("take(0, 0, 1)", s.take(0, 0, 1), -3);
        CHECK.due("take(0, 1, 5)", s.take(0, 1, 5), -2);
        CHECK.due("take(3, 2, 4)", s.take(3, 2, 4), -5);
        CHECK.due("give(0, 1, 3)", s.give(0, 1, 3), -3);
        CHECK.due("give(-1, 1, 3)", s.give(-1, 1, 3), -2);
        CHECK.due("count(7)", s.count(7), 0);
        for (int i = 1; i <= 9; i++) CHECK.due("give " + i, s.give(3, 2, 4), i);
        CHECK.due("give the tenth", s.give(3, 2, 4), -5);
        CHECK.due("take of nine", s.take(3, 2, 4), 8);
        CHECK.due("count(7) of all", s.count(7), 10);
    }

    private static void sixty() {
        SpentTurns s = Check.town(TOWN);
        for (int i = 0; i < 30; i++) {
            CHECK.due("give " + i, s.give(0, 1, 2), 2);
            CHECK.due("take " + i, s.take(0, 1, 2), 1);
        }
        CHECK.due("give the 61st", s.give(0, 1, 2), -5);
        CHECK.due("take the 61st", s.take(0, 1, 2), -5);
        CHECK.due("take of none such, the 61st", s.take(0, 1, 3), -3);
        CHECK.due("led(59, 3)", s.led(59, 3), 1);
        CHECK.due("led(60, 3)", s.led(60, 3), -1);
        CHECK.due("undo()", s.undo(), 59);
        CHECK.due("take the 60th again", s.take(0, 1, 2), 1);
        CHECK.due("anew()", s.anew(), 60);
    }
}
