/** What can be seen of an object without changing it. */
final class Look {
    private static final int ALL = 8;

    private Look() {
    }

    /** As one text: what a call changed shows in it, but for the bytes of the tape and the images. */
    static String at(SpentTurns s) {
        StringBuilder text = new StringBuilder();
        for (int what = 0; what <= 10; what++) text.append(s.count(what)).append(' ');
        text.append(s.fault(0)).append(' ').append(s.fault(1)).append('\n');
        streetsAndTurns(s, text);
        for (int e = 0; e < 6; e++)
            for (int what = 0; what < 3; what++) text.append(s.errand(e, what)).append(' ');
        for (int i = 0; i < s.count(7); i++)
            for (int what = 0; what < 4; what++) text.append(s.led(i, what)).append(' ');
        for (int slot = 0; slot < 4; slot++) {
            text.append(s.write(slot, -1, 0)).append(' ').append(s.march(slot)).append(' ').append(s.length(slot)).append(' ');
            text.append(s.paste(slot, 0, slot, 0, 60)).append(' ').append(s.fits(slot, 0)).append('\n');
        }
        return text.toString();
    }

    private static void streetsAndTurns(SpentTurns s, StringBuilder text) {
        for (int x = 0; x < ALL; x++)
            for (int y = 0; y < ALL; y++) {
                text.append(s.street(x, y)).append(' ');
                if (s.street(x, y) > 0)
                    for (int z = 0; z < ALL; z++) text.append(s.uses(x, y, z)).append(' ').append(s.left(x, y, z)).append(' ');
            }
        text.append('\n');
    }

    /** Every call that wants a town says that there is none. */
    static void noTown(Check check, SpentTurns s) {
        for (int what = 0; what <= 8; what++) check.due("count(" + what + ")", s.count(what), 0);
        check.due("street", s.street(0, 1), -2);
        check.due("uses", s.uses(0, 1, 0), -2);
        check.due("left", s.left(0, 1, 0), -2);
        check.due("beside", s.beside(0), -2);
        check.due("corner", s.corner(0, 0), -2);
        check.due("errand", s.errand(0, 0), -2);
        check.due("take", s.take(0, 1, 0), -2);
        check.due("give", s.give(0, 1, 0), -2);
        check.due("undo", s.undo(), -2);
        check.due("anew", s.anew(), -2);
        check.due("led", s.led(0, 0), -2);
        noWays(check, s);
        noDay(check, s);
        noWalks(check, s);
        check.due("build", s.build(0, 1, 1), -2);
        check.due("law", s.law(0, 1, 0, 1), -2);
        check.due("send", s.send(0, 0, 1, 1), -2);
    }

    private static void noWays(Check check, SpentTurns s) {
        for (int y = 0; y < 2; y++) {
            check.due("bare", s.bare(0, y), -2);
            check.due("way", s.way(0, y), -2);
            check.due("stop", s.stop(0, y, 0), -2);
            check.due("streets", s.streets(0, y), -2);
            check.due("buy", s.buy(0, y), -2);
            check.due("bought", s.bought(0, y), -2);
            check.due("lane", s.lane(0, y, 0), -2);
        }
        check.due("reach", s.reach(0), -2);
        check.due("shut", s.shut(), -2);
        check.due("key", s.key(), -2);
        check.due("loss", s.loss(0, 1, 0), -2);
        check.due("flow", s.flow(0, 1), -2);
        check.due("cut", s.cut(0, 1), -2);
        check.due("wall", s.wall(0, 1, 0), -2);
    }

    private static void noDay(Check check, SpentTurns s) {
        check.due("day", s.day(), -2);
        check.due("goes", s.goes(0), -2);
        check.due("fails", s.fails(), -2);
        check.due("dusk", s.dusk(), -2);
        check.due("spent", s.spent(0, 1, 0), -2);
        check.due("dawn", s.dawn(), -2);
        check.due("first", s.first(0), -2);
        check.due("least", s.least(), -2);
        check.due("spares", s.spares(0), -100);
        check.due("demand", s.demand(0, 1, 0), -2);
        check.due("dearest", s.dearest(), -2);
        check.due("noon", s.noon(0), -2);
        check.due("round", s.round(), -2);
        check.due("uneven", s.uneven(), -2);
        check.due("wins", s.wins(0, 1), -2);
        check.due("turn", s.turn(0, 1), -2);
        check.due("chase", s.chase(0, 1, 0), -2);
    }

    private static void noWalks(Check check, SpentTurns s) {
        check.due("walks", s.walks(0, 0, 0), -2);
        check.due("sure", s.sure(0, 0, 0), -2);
        check.due("ends", s.ends(0, 0), -2);
        check.due("wide", s.wide(0, 0), -2);
        for (int slot = 0; slot < 4; slot++) {
            check.due("fits", s.fits(slot, 0), -2);
            check.due("gone", s.gone(slot, 0), -2);
            check.due("march", s.march(slot), -2);
            check.due("length", s.length(slot), -2);
        }
        check.due("drawn", s.drawn(0, 0, 0, 0), -2);
        check.due("strays", s.strays(0, 1, 0, 0, 0), -2);
    }
}
