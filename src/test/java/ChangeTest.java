/** Promises 58 to 60 and 62 to 66: building, laws, errands sent, images, slots. */
public final class ChangeTest {
    private static final Check CHECK = new Check("ChangeTest");

    public static void main(String[] args) {
        build();
        fourteen();
        law();
        send();
        images();
        rows();
        writes();
        pastes();
        CHECK.close();
    }

    private static void build() {
        SpentTurns s = Check.town(TownTest.TOWN);
        CHECK.due("build(0, 4, 3)", s.build(0, 4, 3), 0);
        CHECK.due("street(4, 0)", s.street(4, 0), 3);
        CHECK.due("count(1)", s.count(1), 6);
        CHECK.due("count(2)", s.count(2), 22 + 5 + 3);
        CHECK.due("uses(4, 0, 1) of a new one", s.uses(4, 0, 1), 1);
        CHECK.due("left(4, 0, 4) of a new one", s.left(4, 0, 4), 0);
        CHECK.due("way(0, 4)", s.way(0, 4), 3);
        CHECK.due("build(4, 0, 9)", s.build(4, 0, 9), 3);
        CHECK.due("count(1) of the same", s.count(1), 6);
        CHECK.due("build(2, 4, 5)", s.build(2, 4, 5), 1);
        CHECK.due("uses(3, 2, 4) as told", s.uses(3, 2, 4), 0);
        CHECK.due("build(2, 4, 0)", s.build(2, 4, 0), 5);
        CHECK.due("uses(3, 2, 4) of none", s.uses(3, 2, 4), -1);
        CHECK.due("street(2, 4) of none", s.street(2, 4), 0);
        CHECK.due("count(1) with one less", s.count(1), 5);
        CHECK.due("build(2, 4, 0) again", s.build(2, 4, 0), 0);
        CHECK.due("count(1) again", s.count(1), 5);
        CHECK.due("build(2, 4, 1) anew", s.build(2, 4, 1), 0);
        CHECK.due("uses(3, 2, 4) as told for all", s.uses(3, 2, 4), 1);
        CHECK.due("left(3, 2, 4) as told for all", s.left(3, 2, 4), 1);
        s.law(1, 2, 1, 7);
        s.build(1, 2, 0);
        s.build(1, 2, 2);
        CHECK.due("half for half turns of a new one", s.uses(1, 2, 1), 0);
        CHECK.due("build(0, 0, 1)", s.build(0, 0, 1), -2);
        CHECK.due("build(0, 5, 1)", s.build(0, 5, 1), -2);
        CHECK.due("build(0, 1, 10)", s.build(0, 1, 10), -2);
        CHECK.due("build(0, 1, -1)", s.build(0, 1, -1), -2);
        s.take(0, 1, 2);
        CHECK.due("build with something taken", s.build(0, 1, 3), -5);
        CHECK.due("build of none such with something taken", s.build(0, 9, 3), -2);
        s.undo();
        s.give(0, 1, 2);
        CHECK.due("build with something given", s.build(0, 1, 0), -5);
        s.anew();
        CHECK.due("build with all taken back", s.build(0, 1, 0), 2);
    }

    private static void fourteen() {
        StringBuilder text = new StringBuilder("town crossings 8 uses 1 half 1;");
        for (int y = 1; y < 8; y++) text.append("street 0 ").append(y).append(" 5;");
        for (int y = 2; y < 8; y++) text.append("street 1 ").append(y).append(" 5;");
        SpentTurns s = Check.town(text.toString());
        CHECK.due("build the 14th", s.build(2, 3, 1), 0);
        CHECK.due("build a 15th", s.build(4, 5, 1), -5);
        CHECK.due("build none where none is", s.build(4, 5, 0), 0);
        CHECK.due("build one of the 14", s.build(1, 0, 2), 5);
        CHECK.due("count(1)", s.count(1), 14);
        CHECK.due("count(2)", s.count(2), 49 + 49 + 9 + 9 + 4 * 4);
        CHECK.due("build one less", s.build(2, 3, 0), 1);
        CHECK.due("build another", s.build(4, 5, 1), 0);
    }

    private static void law() {
        SpentTurns s = Check.town(TownTest.TOWN);
        CHECK.due("law(3, 2, 4, 9)", s.law(3, 2, 4, 9), 0);
        CHECK.due("uses(3, 2, 4)", s.uses(3, 2, 4), 9);
        CHECK.due("left(3, 2, 4)", s.left(3, 2, 4), 9);
        CHECK.due("law(3, 2, 4, 0)", s.law(3, 2, 4, 0), 9);
        CHECK.due("law(0, 1, 3, 1)", s.law(0, 1, 3, 1), -3);
        CHECK.due("law(0, 1, 5, 1)", s.law(0, 1, 5, 1), -2);
        CHECK.due("law(0, 1, 2, 10)", s.law(0, 1, 2, 10), -2);
        CHECK.due("law(0, 1, 2, -1)", s.law(0, 1, 2, -1), -2);
        s.take(0, 1, 2);
        CHECK.due("law with something taken", s.law(2, 1, 0, 3), -5);
        CHECK.due("law of no turn with something taken", s.law(0, 1, 3, 3), -3);
        CHECK.due("uses(2, 1, 0)", s.uses(2, 1, 0), 1);
        s.anew();
        CHECK.due("law with all taken back", s.law(2, 1, 0, 3), 1);
        s.take(2, 1, 0);
        s.anew();
        CHECK.due("left(2, 1, 0) behind anew", s.left(2, 1, 0), 3);
    }

    private static void send() {
        SpentTurns s = Check.town(TownTest.TOWN);
        CHECK.due("send(0, 3, 2, 23)", s.send(0, 3, 2, 23), 904);
        CHECK.due("send(0, 0, 4, 0)", s.send(0, 0, 4, 0), 2332);
        CHECK.due("errand(0, 2)", s.errand(0, 2), 0);
        CHECK.due("goes(0): it is first now", s.goes(0), 5);
        CHECK.due("goes(1): it is behind now", s.goes(1), -1);
        s.take(0, 1, 2);
        CHECK.due("send with something taken", s.send(1, 2, 3, 5), 714);
        CHECK.due("send(3, ..)", s.send(3, 0, 1, 5), -2);
        CHECK.due("send(-1, ..)", s.send(-1, 0, 1, 5), -2);
        CHECK.due("send(0, 1, 1, 5)", s.send(0, 1, 1, 5), -2);
        CHECK.due("send(0, 5, 1, 5)", s.send(0, 5, 1, 5), -2);
        CHECK.due("send(0, 1, 5, 5)", s.send(0, 1, 5, 5), -2);
        CHECK.due("send(0, 1, 2, 24)", s.send(0, 1, 2, 24), -2);
        CHECK.due("send(0, 1, 2, -1)", s.send(0, 1, 2, -1), -2);
        CHECK.due("errand(0, 0) still", s.errand(0, 0), 0);
    }

    private static void images() {
        SpentTurns s = Check.town(TownTest.TOWN);
        CHECK.due("back(0) of nothing", s.back(0), -6);
        CHECK.due("keep(3)", s.keep(3), -2);
        CHECK.due("keep(-1)", s.keep(-1), -2);
        CHECK.due("back(3)", s.back(3), -2);
        CHECK.due("back(-1)", s.back(-1), -2);
        s.take(0, 1, 2);
        CHECK.due("keep(0)", s.keep(0), 0);
        s.take(1, 2, 4);
        CHECK.due("keep(2)", s.keep(2), 0);
        s.anew();
        s.build(0, 1, 7);
        s.law(2, 1, 0, 4);
        s.send(0, 2, 1, 3);
        s.feed(1, 2, 3, 4, 5);
        Check.row(s, 0, 0, 5);
        CHECK.due("back(0)", s.back(0), 0);
        CHECK.due("street(0, 1)", s.street(0, 1), 2);
        CHECK.due("uses(2, 1, 0)", s.uses(2, 1, 0), 1);
        CHECK.due("errand(0, 2)", s.errand(0, 2), 9);
        CHECK.due("left(0, 1, 2)", s.left(0, 1, 2), 0);
        CHECK.due("left(1, 2, 4)", s.left(1, 2, 4), 1);
        CHECK.due("count(7)", s.count(7), 1);
        CHECK.due("led(0, 2)", s.led(0, 2), 2);
        CHECK.due("count(8)", s.count(8), 10);
        CHECK.due("the tape stays", s.count(9), 20);
        CHECK.due("slots stay", s.count(10), 1);
        s.undo();
        CHECK.due("back(0) again", s.back(0), 0);
        CHECK.due("the image is as it was", s.left(0, 1, 2), 0);
        CHECK.due("back(2)", s.back(2), 0);
        CHECK.due("count(7) of the other", s.count(7), 2);
        CHECK.due("back(1) of nothing", s.back(1), -6);
        SpentTurns none = new SpentTurns();
        CHECK.due("keep(1) of no town", none.keep(1), 0);
        Check.tape(none, "town crossings 2 uses 0 half 0;");
        none.town();
        CHECK.due("count(0)", none.count(0), 2);
        CHECK.due("back(1) to no town", none.back(1), 0);
        CHECK.due("count(0) of no town", none.count(0), 0);
        CHECK.due("count(8) of no town", none.count(8), 0);
    }

    private static void rows() {
        SpentTurns s = Check.town(TownTest.TOWN);
        CHECK.due("row(4, 0, 1)", s.row(4, 0, 1), -2);
        CHECK.due("row(-1, 0, 1)", s.row(-1, 0, 1), -2);
        CHECK.due("row(0, 4, 1)", s.row(0, 4, 1), -2);
        CHECK.due("row(0, -1, 1)", s.row(0, -1, 1), -2);
        CHECK.due("row(0, 3, 61)", s.row(0, 3, 61), -2);
        CHECK.due("row(0, 0, -1)", s.row(0, 0, -1), -3);
        CHECK.due("row(0, 4, -1)", s.row(0, 4, -1), -2);
        CHECK.due("count(10) of none", s.count(10), 0);
        CHECK.due("row(0, 3, 60)", s.row(0, 3, 60), 0);
        CHECK.due("row(3, 0, 0)", s.row(3, 0, 0), 0);
        CHECK.due("count(10)", s.count(10), 2);
        CHECK.due("all are 0", s.march(0), 1);
        s.write(0, 59, 9L);
        CHECK.due("a number is none", s.march(0), -2);
        CHECK.due("row(0, 0, -1) stays", s.row(0, 0, -1), -3);
        CHECK.due("the slot stays", s.march(0), -2);
        CHECK.due("row(0, 3, 60) anew", s.row(0, 3, 60), 0);
        CHECK.due("all are 0 anew", s.march(0), 1);
        CHECK.due("count(10) anew", s.count(10), 2);
    }

    private static void writes() {
        SpentTurns s = Check.town(TownTest.TOWN);
        CHECK.due("write to nothing", s.write(0, 0, 1L), -6);
        CHECK.due("write to no slot", s.write(4, 0, 1L), -2);
        CHECK.due("write to no slot", s.write(-1, 0, 1L), -2);
        s.row(0, 0, 2);
        CHECK.due("write beyond", s.write(0, 2, 1L), -7);
        CHECK.due("write ahead", s.write(0, -1, 1L), -7);
        long[] cut = {1L << 8, 1L << 16, 1L << 32};
        for (int width = 0; width < 4; width++) {
            s.row(0, width, 2);
            s.write(0, 0, 0L);
            CHECK.due("write 1", s.write(0, 1, 1L), 0);
            CHECK.due("march of 0 1", s.march(0), 2);
            for (int i = 0; i < 3; i++) {
                s.write(0, 1, cut[i] + 1);
                CHECK.due("width " + width + ", " + cut[i], s.march(0), width <= i ? 2 : -2);
                s.write(0, 1, -cut[i] + 1);
                CHECK.due("width " + width + ", " + -cut[i], s.march(0), width <= i ? 2 : -2);
            }
            s.write(0, 1, -1L);
            CHECK.due("width " + width + ", -1", s.march(0), -2);
        }
    }

    private static void pastes() {
        SpentTurns s = Check.town(TownTest.TOWN);
        Check.row(s, 0, 0, 0, 1, 2, 4);
        s.row(1, 0, 3);
        s.row(2, 1, 4);
        CHECK.due("paste(4, ..)", s.paste(4, 0, 0, 0, 0), -2);
        CHECK.due("paste(.., 4, ..)", s.paste(0, 0, 4, 0, 0), -2);
        CHECK.due("paste(-1, ..)", s.paste(-1, 0, 0, 0, 0), -2);
        CHECK.due("paste(.., -1, ..)", s.paste(0, 0, -1, 0, 0), -2);
        CHECK.due("paste to nothing", s.paste(0, 0, 3, 0, 0), -6);
        CHECK.due("paste of nothing", s.paste(3, 0, 0, 0, 0), -6);
        CHECK.due("paste to another width", s.paste(0, 0, 2, 0, 9), -8);
        int[][] beyond = {{0, 0, 4}, {2, 0, 3}, {0, 1, 3}, {-1, 0, 1}, {0, -1, 1}, {0, 0, -1}, {5, 0, 0}, {0, 4, 0},
            {2147483647, 0, 2147483647}, {0, 2147483647, 1}, {1, 0, 2147483647}};
        for (int[] b : beyond) CHECK.due("paste beyond", s.paste(0, b[0], 1, b[1], b[2]), -7);
        CHECK.due("nothing happened", s.march(1), 1);
        CHECK.due("paste of none at the ends", s.paste(0, 4, 1, 3, 0), 0);
        CHECK.due("paste(0, 0, 1, 0, 3)", s.paste(0, 0, 1, 0, 3), 0);
        CHECK.due("march(1)", s.march(1), 3);
        CHECK.due("length(1)", s.length(1), 4);
        CHECK.due("paste(0, 2, 1, 1, 2)", s.paste(0, 2, 1, 1, 2), 0);
        CHECK.due("march(1) of 0 2 4", s.march(1), 1);
        // to its own, upward and downward, as they were
        CHECK.due("paste(0, 0, 0, 1, 3)", s.paste(0, 0, 0, 1, 3), 0);
        s.row(1, 0, 3);
        s.paste(0, 1, 1, 0, 3);
        CHECK.due("march of 0 1 2, moved up", s.march(1), 3);
        CHECK.due("paste(0, 1, 0, 0, 3)", s.paste(0, 1, 0, 0, 3), 0);
        s.paste(0, 0, 1, 0, 3);
        CHECK.due("march of 0 1 2, moved down", s.march(1), 3);
        CHECK.due("march of 0 1 2 2", s.march(0), 3);
    }
}
