/** Promises 1 to 5, and terms I: the tape, the text of a town, its faults. */
public final class TextTest {
    private static final Check CHECK = new Check("TextTest");
    private static final String HEAD = "town crossings 3 uses 1 half 1;";

    public static void main(String[] args) {
        newObject();
        tape();
        lines();
        faultsOfTheHead();
        faultsOfLines();
        faultsOfNumbers();
        tooMany();
        whatStays();
        CHECK.close();
    }

    private static void newObject() {
        SpentTurns s = new SpentTurns();
        for (int what = 0; what <= 10; what++) CHECK.due("new: count(" + what + ")", s.count(what), 0);
        CHECK.due("new: count(11)", s.count(11), -1);
        CHECK.due("new: count(-1)", s.count(-1), -1);
        CHECK.due("new: beside(0)", s.beside(0), -2);
        CHECK.due("new: undo()", s.undo(), -2);
        CHECK.due("new: fault(0)", s.fault(0), 0);
        CHECK.due("new: fault(1)", s.fault(1), -1);
        CHECK.due("new: fault(2)", s.fault(2), -1);
        CHECK.due("new: fault(-1)", s.fault(-1), -1);
        CHECK.due("NONE", SpentTurns.NONE, -1);
    }

    private static void tape() {
        SpentTurns s = new SpentTurns();
        CHECK.due("end(1) of none", s.end(1), -1);
        CHECK.due("end(0) of none", s.end(0), 0);
        for (int i = 1; i <= 80; i++) CHECK.due("feed " + i, s.feed(0, 0, 0, 0, 0), 20 * i);
        CHECK.due("feed 81", s.feed(0, 0, 0, 0, 0), -1);
        CHECK.due("count(9)", s.count(9), 1600);
        CHECK.due("end(-1)", s.end(-1), -1);
        CHECK.due("end(1601)", s.end(1601), -1);
        CHECK.due("end(1600)", s.end(1600), 1600);
        CHECK.due("end(1581)", s.end(1581), 1581);
        CHECK.due("feed to 1601", s.feed(1, 2, 3, 4, 5), -1);
        CHECK.due("count(9) still", s.count(9), 1581);
        CHECK.due("end(1580)", s.end(1580), 1580);
        CHECK.due("feed to 1600", s.feed(1, 2, 3, 4, 5), 1600);
        highestByteFirst();
    }

    private static void highestByteFirst() {
        SpentTurns s = new SpentTurns();
        // "town" "!..." : the fault is at byte 4, so the first number's bytes came highest first
        s.feed(0x746f776e, 0x21000000, 0, 0, 0);
        CHECK.due("town() of town!", s.town(), -4);
        CHECK.due("fault(0) of town!", s.fault(0), 1);
        CHECK.due("fault(1) of town!", s.fault(1), 4);
        s.feed(0x202020e9, 0, 0, 0, 0);
        s.town();
        CHECK.due("fault(1) of a byte above 127", s.fault(1), 3);
    }

    private static void told(String text, int lines) {
        SpentTurns s = new SpentTurns();
        Check.tape(s, text);
        CHECK.due("town() of " + text, s.town(), lines);
        CHECK.due("fault(0) of " + text, s.fault(0), 0);
        CHECK.due("fault(1) of " + text, s.fault(1), -1);
        CHECK.due("count(8) of " + text, s.count(8), lines);
        CHECK.due("count(9) of " + text, s.count(9), 0);
    }

    private static void faulty(String text, int kind, int place) {
        SpentTurns s = new SpentTurns();
        Check.tape(s, text);
        CHECK.due("town() of " + text, s.town(), -4);
        CHECK.due("fault(0) of " + text, s.fault(0), kind);
        CHECK.due("fault(1) of " + text, s.fault(1), place);
        CHECK.due("fault(2) of " + text, s.fault(2), -1);
        CHECK.due("count(0) of " + text, s.count(0), 0);
    }

    /** A fault at the last token of the text, which is so long. */
    private static void faultyLast(String text, int kind, int size) {
        faulty(text, kind, text.length() - size);
    }

    private static void lines() {
        told("", 0);
        told("  \n ", 0);
        told(HEAD, 1);
        told("town crossings2uses0half3;", 1);
        told(" \ntown\ncrossings 8 uses 3 half 0 ; \n", 1);
        told("town crossings 002 uses 000000000000 half 1;", 1);
        told(HEAD + "street 0 1 9;street 1 0 1;turn 0 1 0 uses 9;turn 0 1 0 uses 0;errand 2 0 at 23;", 6);
        String fourteen = "street 0 1 5;street 0 2 5;street 0 3 5;street 0 4 5;street 0 5 5;street 1 2 5;street 1 3 5;"
                + "street 1 4 5;street 1 5 5;street 2 3 5;street 2 4 5;street 2 5 5;street 3 4 5;street 3 5 5;";
        told("town crossings 6 uses 1 half 1;" + fourteen + "street 5 3 1;", 16);
        told(HEAD + "errand 0 1 at 0;".repeat(6), 7);
    }

    private static void faultsOfTheHead() {
        faulty("street", 1, 0);
        faulty("street 0 1 2;", 1, 0);
        faulty("7", 1, 0);
        faulty(";", 1, 0);
        faulty(" Town", 1, 1);
        faulty("towns crossings 3", 1, 0);
        faulty("townz crossings 3", 1, 0);
        faulty("sown crossings 3", 1, 0);
        faulty("towm crossings 3", 1, 0);
        faulty("town", 1, 4);
        faulty("town ", 1, 5);
        faultyLast("town uses", 1, 4);
        faultyLast("town 3", 1, 1);
        faultyLast("town crossings x", 1, 1);
        faultyLast("town crossings 3 half", 1, 4);
        faultyLast("town crossings 3;", 1, 1);
        faultyLast("town crossings 3 uses 1 uses", 1, 4);
        faultyLast("town crossings 3 uses 1 half 1", 1, 0);
        faultyLast("town crossings 3 uses 1 half 1 \n", 1, 0);
        faultyLast("town crossings 3 uses 1 half 1 street", 1, 6);
        faultyLast(HEAD + "town", 1, 4);
        faultyLast(HEAD + ";", 1, 1);
        faultyLast("town crossings 3 uses -", 1, 1);
        faultyLast("town crossings 3\t", 1, 1);
    }

    private static void faultsOfLines() {
        faultyLast(HEAD + "foo", 1, 3);
        faultyLast(HEAD + "3", 1, 1);
        faultyLast(HEAD + "street", 1, 0);
        faultyLast(HEAD + "street at", 1, 2);
        faultyLast(HEAD + "street 0;", 1, 1);
        faultyLast(HEAD + "street 0 1", 1, 0);
        faultyLast(HEAD + "street 0 1 2", 1, 0);
        faultyLast(HEAD + "street 0 1 2 2", 1, 1);
        faultyLast(HEAD + "street 0 1 2;turn 0 1 0 7", 1, 1);
        faultyLast(HEAD + "street 0 1 2;turn 0 1 half", 1, 4);
        faultyLast(HEAD + "street 0 1 2;turn 0 1 0 uses;", 1, 1);
        faultyLast(HEAD + "errand 0 1 3", 1, 1);
        faultyLast(HEAD + "errand 0 1 at", 1, 0);
        faultyLast(HEAD + "errand 0 1 at at", 1, 2);
        faultyLast(HEAD + "streets", 1, 7);
    }

    private static void faultsOfNumbers() {
        faultyLast("town crossings 9", 2, 1);
        faultyLast("town crossings 1", 2, 1);
        faultyLast("town crossings 4294967298", 2, 10);
        faultyLast("town crossings 4 uses 4", 2, 1);
        faultyLast("town crossings 4 uses 3 half 4", 2, 1);
        faultyLast(HEAD + "street 3", 2, 1);
        faultyLast(HEAD + "street 0 0", 2, 1);
        faultyLast(HEAD + "street 0 3", 2, 1);
        faultyLast(HEAD + "street 0 1 0", 2, 1);
        faultyLast(HEAD + "street 0 1 10", 2, 2);
        faultyLast(HEAD + "turn 3", 2, 1);
        faultyLast(HEAD + "turn 0 1", 2, 1);
        faultyLast(HEAD + "turn 0 0", 2, 1);
        faultyLast(HEAD + "street 0 1 2;turn 0 2", 2, 1);
        faultyLast(HEAD + "street 0 1 2;turn 0 1 2", 2, 1);
        faultyLast(HEAD + "street 0 1 2;turn 0 1 1", 2, 1);
        faultyLast(HEAD + "street 0 1 2;turn 0 1 7", 2, 1);
        faultyLast(HEAD + "street 0 1 2;turn 0 1 0 uses 10", 2, 2);
        faultyLast(HEAD + "turn 0 1 0 uses 1;street 0 1 2;", 2, 24);
        faultyLast(HEAD + "errand 3", 2, 1);
        faultyLast(HEAD + "errand 0 0", 2, 1);
        faultyLast(HEAD + "errand 0 3", 2, 1);
        faultyLast(HEAD + "errand 0 1 at 24", 2, 2);
        faultyLast(HEAD + "errand 0 1 at 99999999999999999999", 2, 20);
    }

    private static void tooMany() {
        String text = "town crossings 8 uses 1 half 1;";
        for (int y = 1; y < 8; y++) text += "street 0 " + y + " 5;";
        for (int y = 2; y < 8; y++) text += "street 1 " + y + " 5;";
        text += "street 2 3 5;";
        told(text, 15);
        told(text + "street 3 2 9;", 16);
        faultyLast(text + "street 2 4 5", 3, 1);
        faultyLast(text + "street 2 4 5;errand", 3, 8);
        faultyLast(text + "street 2 4 0", 2, 1);
        faultyLast(text + "street 2 4 ;", 1, 1);
        faultyLast(HEAD + "errand 0 1 at 3;".repeat(6) + "errand", 3, 6);
        faultyLast(HEAD + "errand 0 1 at 3;".repeat(6) + "errand 0 0", 3, 10);
    }

    private static void whatStays() {
        SpentTurns s = Check.town(HEAD + "street 0 1 4;");
        s.take(0, 1, 0);
        s.keep(1);
        Check.row(s, 2, 0, 1);
        Check.tape(s, "town crossings 9");
        CHECK.due("town() with a fault", s.town(), -4);
        CHECK.due("street(0, 1) behind a fault", s.street(0, 1), 4);
        CHECK.due("count(7) behind a fault", s.count(7), 1);
        CHECK.due("count(9): each text stands alone", s.count(9), 0);
        Check.tape(s, HEAD + "street 0 1 5;");
        CHECK.due("town() in place of another", s.town(), 2);
        CHECK.due("fault(0) of the latest", s.fault(0), 0);
        CHECK.due("fault(1) of the latest", s.fault(1), -1);
        CHECK.due("street(0, 1) of the latest", s.street(0, 1), 5);
        CHECK.due("count(7) of the latest", s.count(7), 0);
        CHECK.due("left(0, 1, 0) of the latest", s.left(0, 1, 0), 1);
        CHECK.due("slots stay", s.count(10), 1);
        CHECK.due("town() of nothing", s.town(), 0);
        CHECK.due("no town then", s.count(0), 0);
        CHECK.due("shut() then", s.shut(), -2);
        CHECK.due("back(1): images stay", s.back(1), 0);
        CHECK.due("street(0, 1) of the image", s.street(0, 1), 4);
        CHECK.due("left(0, 1, 0) of the image", s.left(0, 1, 0), 0);
    }
}
