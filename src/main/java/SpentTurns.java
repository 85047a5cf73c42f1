import java.util.Arrays;

/** A town whose turns are used up. What each call promises stands in the document, under its number. */
public final class SpentTurns {
    public static final int NONE = -1;

    private static final int NOT_SUCH = -2;
    private static final int MISSING = -3;
    private static final int FAULTY = -4;
    private static final int REFUSED = -5;
    private static final int NOTHING = -6;
    private static final int BEYOND = -7;
    private static final int UNLIKE = -8;
    private static final int NO_ERRAND = -100;

    private static final int CROSSINGS = 8;
    private static final int ARCS = 64;
    private static final int TURNS = 512;
    private static final int MOST_STREETS = 14;
    private static final int MOST_LENGTH = 9;
    private static final int MOST_USES = 9;
    private static final int MOST_ERRANDS = 6;
    private static final int HOURS = 24;
    private static final int MOST_LED = 60;
    private static final int TAPE_BYTES = 1600;
    private static final int FEED_BYTES = 20;
    private static final int IMAGES = 3;
    private static final int SLOTS = 4;
    private static final int WIDTHS = 4;
    private static final int ROW_NUMBERS = 60;
    private static final int GAME_USES = 12;
    private static final int WALK_STREETS = 8;
    private static final int SEEN_TURNS = 8;
    private static final int STRAY_STREETS = 20;
    private static final int STRANGERS = 20;
    private static final int MOST_SEED = 2000000000;

    /** No way takes an arc twice, and there are 28 arcs at most; the rest is room to spare. */
    private static final int WAY_CROSSINGS = 40;

    /** A way's cost is one number, so that one comparison ranks bought turns, length and streets. */
    private static final int BUY_COST = 1000000;
    private static final int LENGTH_COST = 1000;
    private static final int STREET_COST = 1;
    private static final int FAR = 1000000000;

    private static final int BY_USES = 0;
    private static final int BY_BUYING = 1;
    private static final int BARE = 2;

    private final Town here;
    private final Town[] images;
    private final Numbers[] slots;
    private final Reader reader;
    private final Ways ways;
    private final Streams streams;
    private final Day today;
    private final Orders orders;
    private final Walks walking;
    private final Game game;
    private final Stranger stranger;
    private final int[] work = new int[TURNS];
    /** Tells whether the orders that were tried are still those of the town as it is. */
    private int changes;
    private int ordersTriedAt;

    public SpentTurns() {
        here = new Town();
        images = new Town[IMAGES];
        slots = new Numbers[SLOTS];
        for (int i = 0; i < SLOTS; i++) {
            slots[i] = new Numbers();
        }
        reader = new Reader();
        ways = new Ways();
        streams = new Streams();
        today = new Day();
        orders = new Orders();
        walking = new Walks();
        game = new Game();
        stranger = new Stranger();
        ordersTriedAt = NONE;
    }

    // ---- the tape and the town ----

    public int feed(int a, int b, int c, int d, int e) {
        if (reader.taped + FEED_BYTES > TAPE_BYTES) {
            return NONE;
        }
        reader.lay(a);
        reader.lay(b);
        reader.lay(c);
        reader.lay(d);
        reader.lay(e);
        return reader.taped;
    }

    public int end(int n) {
        if (n < 0 || n > reader.taped) {
            return NONE;
        }
        reader.taped = n;
        return n;
    }

    public int town() {
        reader.read();
        if (reader.fault != 0) {
            return FAULTY;
        }
        here.become(reader.draft);
        changes++;
        return here.lines;
    }

    public int fault(int what) {
        switch (what) {
            case 0: return reader.fault;
            case 1: return reader.place;
            default: return NONE;
        }
    }

    // ---- what there is ----

    public int street(int x, int y) {
        return here.isPair(x, y) ? here.lengths[arcOf(x, y)] : NOT_SUCH;
    }

    public int uses(int x, int y, int z) {
        return usesOf(here.morning, x, y, z);
    }

    public int left(int x, int y, int z) {
        return usesOf(here.rest, x, y, z);
    }

    private int usesOf(int[] row, int x, int y, int z) {
        if (!here.areCrossings(x, y, z)) {
            return NOT_SUCH;
        }
        return here.isTurn(x, y, z) ? row[turnOf(x, y, z)] : NONE;
    }

    public int beside(int x) {
        if (!here.isCrossing(x)) {
            return NOT_SUCH;
        }
        int bits = 0;
        for (int i = 0; i < here.degrees[x]; i++) {
            bits |= 1 << here.nearby[arcOf(x, i)];
        }
        return bits;
    }

    public int corner(int x, int what) {
        if (!here.isCrossing(x) || what < 0 || what > 2) {
            return NOT_SUCH;
        }
        int sum = 0;
        for (int i = 0; i < here.turnCount; i++) {
            int turn = here.turns[i];
            if (byOf(turn) == x) {
                int uses = here.rest[turn];
                sum += what == 0 ? 1 : what == 1 ? Math.min(uses, 1) : uses;
            }
        }
        return sum;
    }

    public int errand(int errand, int what) {
        if (!here.isErrand(errand) || what < 0 || what > 2) {
            return NOT_SUCH;
        }
        switch (what) {
            case 0: return here.from[errand];
            case 1: return here.to[errand];
            default: return here.hours[errand];
        }
    }

    // ---- what is taken, given back, taken back ----

    public int take(int x, int y, int z) {
        return lead(x, y, z, 1);
    }

    public int give(int x, int y, int z) {
        return lead(x, y, z, 0);
    }

    private int lead(int x, int y, int z, int taken) {
        if (!here.areCrossings(x, y, z)) {
            return NOT_SUCH;
        }
        if (!here.isTurn(x, y, z)) {
            return MISSING;
        }
        int turn = turnOf(x, y, z);
        int bound = taken == 1 ? 0 : MOST_USES;
        if (here.ledCount >= MOST_LED || here.rest[turn] == bound) {
            return REFUSED;
        }
        here.led[here.ledCount] = 2 * turn + taken;
        here.ledCount++;
        here.rest[turn] += taken == 1 ? -1 : 1;
        changes++;
        return here.rest[turn];
    }

    public int undo() {
        if (!here.stands()) {
            return NOT_SUCH;
        }
        if (here.ledCount == 0) {
            return REFUSED;
        }
        here.takeBackLatest();
        changes++;
        return here.ledCount;
    }

    public int anew() {
        if (!here.stands()) {
            return NOT_SUCH;
        }
        int count = here.ledCount;
        for (int i = 0; i < count; i++) {
            here.takeBackLatest();
        }
        changes++;
        return count;
    }

    public int led(int i, int what) {
        if (!here.stands() || what < 0 || what > 3) {
            return NOT_SUCH;
        }
        if (i < 0 || i >= here.ledCount) {
            return NONE;
        }
        int turn = here.led[i] / 2;
        switch (what) {
            case 0: return fromOf(turn);
            case 1: return byOf(turn);
            case 2: return toOf(turn);
            default: return here.led[i] % 2;
        }
    }

    // ---- ways ----

    public int bare(int x, int y) {
        return costOf(x, y, BARE, LENGTH_COST);
    }

    public int way(int x, int y) {
        return costOf(x, y, BY_USES, LENGTH_COST);
    }

    public int stop(int x, int y, int i) {
        return crossingOf(x, y, i, BY_USES);
    }

    public int streets(int x, int y) {
        return costOf(x, y, BY_USES, STREET_COST);
    }

    public int buy(int x, int y) {
        return costOf(x, y, BY_BUYING, BUY_COST);
    }

    public int bought(int x, int y) {
        return costOf(x, y, BY_BUYING, LENGTH_COST);
    }

    public int lane(int x, int y, int i) {
        return crossingOf(x, y, i, BY_BUYING);
    }

    private int costOf(int x, int y, int mode, int unit) {
        if (!here.isCrossing(x) || !here.isCrossing(y)) {
            return NOT_SUCH;
        }
        if (!ways.find(here, here.rest, x, y, mode)) {
            return NONE;
        }
        switch (unit) {
            case BUY_COST: return ways.boughtTurns();
            case LENGTH_COST: return ways.wayLength();
            default: return ways.count - 1;
        }
    }

    private int crossingOf(int x, int y, int i, int mode) {
        if (!here.isCrossing(x) || !here.isCrossing(y)) {
            return NOT_SUCH;
        }
        if (!ways.find(here, here.rest, x, y, mode) || i < 0 || i >= ways.count) {
            return NONE;
        }
        return ways.found[i];
    }

    // ---- who is shut in ----

    public int reach(int x) {
        return here.isCrossing(x) ? ways.within(here, here.rest, x) : NOT_SUCH;
    }

    public int shut() {
        return here.stands() ? ways.shutPairs(here, here.rest) : NOT_SUCH;
    }

    public int key() {
        if (!here.stands()) {
            return NOT_SUCH;
        }
        int most = ways.shutPairs(here, here.rest);
        int best = NONE;
        for (int i = 0; i < here.turnCount; i++) {
            int pairs = shutWithout(here.turns[i]);
            if (pairs > most) {
                most = pairs;
                best = codeOf(here.turns[i]);
            }
        }
        return best;
    }

    public int loss(int x, int y, int z) {
        if (!here.areCrossings(x, y, z)) {
            return NOT_SUCH;
        }
        if (!here.isTurn(x, y, z)) {
            return NONE;
        }
        return shutWithout(turnOf(x, y, z)) - ways.shutPairs(here, here.rest);
    }

    private int shutWithout(int turn) {
        copyUses(here.rest, work);
        work[turn] = 0;
        return ways.shutPairs(here, work);
    }

    // ---- ways at once ----

    public int flow(int x, int y) {
        int answer = fillStreams(x, y);
        return answer == 0 ? streams.total : answer;
    }

    public int cut(int x, int y) {
        int answer = fillStreams(x, y);
        return answer == 0 ? streams.cutTurns(here) : answer;
    }

    public int wall(int x, int y, int i) {
        int answer = fillStreams(x, y);
        return answer == 0 ? streams.cutTurn(here, i) : answer;
    }

    private int fillStreams(int x, int y) {
        if (!here.isPair(x, y)) {
            return NOT_SUCH;
        }
        if (here.lengths[arcOf(x, y)] > 0) {
            return NONE;
        }
        streams.fill(here, x, y);
        return 0;
    }

    // ---- a day of errands ----

    public int day() {
        if (!here.stands()) {
            return NOT_SUCH;
        }
        today.pass(here, ways, NONE);
        return today.done;
    }

    public int goes(int errand) {
        if (!here.isErrand(errand)) {
            return NOT_SUCH;
        }
        today.pass(here, ways, NONE);
        return today.went[errand];
    }

    public int fails() {
        if (!here.stands()) {
            return NOT_SUCH;
        }
        today.pass(here, ways, NONE);
        return today.firstToFail;
    }

    public int dusk() {
        if (!here.stands()) {
            return NOT_SUCH;
        }
        today.pass(here, ways, NONE);
        return here.sumOf(today.rest);
    }

    public int spent(int x, int y, int z) {
        if (!here.areCrossings(x, y, z)) {
            return NOT_SUCH;
        }
        today.pass(here, ways, NONE);
        return usesOf(today.rest, x, y, z);
    }

    public int dawn() {
        if (!here.stands()) {
            return NOT_SUCH;
        }
        tryOrders();
        return orders.bestDone;
    }

    public int first(int i) {
        if (!here.stands()) {
            return NOT_SUCH;
        }
        if (i < 0 || i >= here.errandCount) {
            return NONE;
        }
        tryOrders();
        return orders.best[i];
    }

    public int least() {
        if (!here.stands()) {
            return NOT_SUCH;
        }
        tryOrders();
        return orders.leastLength;
    }

    /** All orders are dear to try, so they are tried again only for a town that has changed since. */
    private void tryOrders() {
        if (ordersTriedAt != changes) {
            orders.tryAll(here, ways);
            ordersTriedAt = changes;
        }
    }

    public int spares(int errand) {
        if (!here.isErrand(errand)) {
            return NO_ERRAND;
        }
        today.pass(here, ways, NONE);
        int doneWith = today.done;
        today.pass(here, ways, errand);
        return today.done - doneWith;
    }

    public int demand(int x, int y, int z) {
        if (!here.areCrossings(x, y, z)) {
            return NOT_SUCH;
        }
        if (!here.isTurn(x, y, z)) {
            return NONE;
        }
        countDemand();
        return work[turnOf(x, y, z)];
    }

    public int dearest() {
        if (!here.stands()) {
            return NOT_SUCH;
        }
        countDemand();
        int most = 0;
        int best = NONE;
        for (int i = 0; i < here.turnCount; i++) {
            int turn = here.turns[i];
            if (work[turn] > most) {
                most = work[turn];
                best = codeOf(turn);
            }
        }
        return best;
    }

    private void countDemand() {
        Arrays.fill(work, 0);
        for (int e = 0; e < here.errandCount; e++) {
            if (ways.find(here, here.rest, here.from[e], here.to[e], BY_USES)) {
                addToTurns(ways.found, ways.count, work, 1);
            }
        }
    }

    public int noon(int set) {
        if (!here.stands() || set < 0 || set >= 1 << here.errandCount) {
            return NOT_SUCH;
        }
        copyUses(here.rest, work);
        int sum = 0;
        for (int e = 0; e < here.errandCount; e++) {
            if ((set >> e & 1) == 1) {
                if (!ways.find(here, work, here.from[e], here.to[e], BY_BUYING)) {
                    return NONE;
                }
                sum += ways.boughtTurns();
                ways.spendWhatIsLeft(work);
            }
        }
        return sum;
    }

    // ---- rounds, the game, the thief ----

    public int round() {
        if (!here.stands()) {
            return NOT_SUCH;
        }
        return game.hasRound(here) ? 1 : 0;
    }

    public int uneven() {
        return here.stands() ? game.unevenArcs(here) : NOT_SUCH;
    }

    public int wins(int x, int y) {
        int answer = playFrom(x, y);
        return answer >= 0 ? 1 : answer == Game.LOST ? 0 : answer == Game.TOO_MANY ? NONE : answer;
    }

    public int turn(int x, int y) {
        int answer = playFrom(x, y);
        return answer == Game.LOST || answer == Game.TOO_MANY ? NONE : answer;
    }

    private int playFrom(int x, int y) {
        if (!here.isPair(x, y)) {
            return NOT_SUCH;
        }
        if (here.lengths[arcOf(x, y)] == 0) {
            return MISSING;
        }
        return game.play(here, x, y);
    }

    public int chase(int x, int y, int z) {
        if (!here.areCrossings(x, y, z)) {
            return NOT_SUCH;
        }
        if (!ways.find(here, here.rest, x, y, BY_USES)) {
            return NONE;
        }
        copyUses(here.rest, work);
        ways.burn(work);
        return ways.find(here, work, z, y, BY_USES) ? ways.wayLength() : NONE;
    }

    // ---- walks ----

    public int walks(int x, int y, int n) {
        if (!here.isCrossing(y) || !walkAll(x, n)) {
            return NOT_SUCH;
        }
        return walking.counts[y];
    }

    public int sure(int x, int y, int n) {
        if (!here.isCrossing(y) || !walkAll(x, n)) {
            return NOT_SUCH;
        }
        return walking.counts[y] > 0 ? walking.common[y] : 0;
    }

    public int ends(int x, int n) {
        return walkAll(x, n) ? walking.endBits() : NOT_SUCH;
    }

    public int wide(int x, int n) {
        return walkAll(x, n) ? walking.sum() : NOT_SUCH;
    }

    private boolean walkAll(int x, int n) {
        if (!here.isCrossing(x) || n < 0 || n > WALK_STREETS) {
            return false;
        }
        copyUses(here.rest, work);
        walking.walkAll(here, work, x, n);
        return true;
    }

    public int fits(int slot, int x) {
        int answer = walkAsSeen(slot, x);
        return answer == 0 ? walking.sum() : answer;
    }

    public int gone(int slot, int x) {
        int answer = walkAsSeen(slot, x);
        return answer == 0 ? walking.endBits() : answer;
    }

    /**
     * A walk of one street more than the turns seen takes as many turns as were seen; so, if those that
     * were seen are its only uses, it takes just these.
     */
    private int walkAsSeen(int slot, int x) {
        if (slot < 0 || slot >= SLOTS || !here.isCrossing(x)) {
            return NOT_SUCH;
        }
        Numbers row = slots[slot];
        if (!row.stands) {
            return NOTHING;
        }
        if (row.count % 3 != 0 || row.count / 3 > SEEN_TURNS || !row.areCrossingsOf(here)) {
            return NOT_SUCH;
        }
        if (!countSeen(row)) {
            return NOT_SUCH;
        }
        walking.walkAll(here, work, x, row.count / 3 + 1);
        return 0;
    }

    private boolean countSeen(Numbers row) {
        Arrays.fill(work, 0);
        for (int i = 0; i + 2 < row.count; i += 3) {
            int x = row.crossingAt(i);
            int y = row.crossingAt(i + 1);
            int z = row.crossingAt(i + 2);
            if (!here.isTurn(x, y, z)) {
                return false;
            }
            work[turnOf(x, y, z)]++;
        }
        return true;
    }

    // ---- marches and strangers ----

    public int march(int slot) {
        int answer = checkMarch(slot);
        return answer == 0 ? marched(slots[slot]) : answer;
    }

    public int length(int slot) {
        int answer = checkMarch(slot);
        if (answer != 0) {
            return answer;
        }
        Numbers row = slots[slot];
        int come = marched(row);
        int sum = 0;
        for (int i = 1; i < come; i++) {
            sum += here.lengths[arcOf(row.crossingAt(i - 1), row.crossingAt(i))];
        }
        return sum;
    }

    private int checkMarch(int slot) {
        if (slot < 0 || slot >= SLOTS || !here.stands()) {
            return NOT_SUCH;
        }
        if (!slots[slot].stands) {
            return NOTHING;
        }
        return slots[slot].areCrossingsOf(here) ? 0 : NOT_SUCH;
    }

    private int marched(Numbers row) {
        copyUses(here.rest, work);
        for (int i = 1; i < row.count; i++) {
            int y = row.crossingAt(i - 1);
            int z = row.crossingAt(i);
            if (here.lengths[arcOf(y, z)] == 0) {
                return i;
            }
            if (i > 1) {
                int turn = turnOf(row.crossingAt(i - 2), y, z);
                if (work[turn] == 0) {
                    return i;
                }
                work[turn]--;
            }
        }
        return row.count;
    }

    public int drawn(int seed, int x, int n, int what) {
        if (!canStray(seed, x, n) || what < 0 || what > 2) {
            return NOT_SUCH;
        }
        stranger.stray(here, seed, x, n);
        switch (what) {
            case 0: return stranger.at;
            case 1: return stranger.went;
            default: return here.sumOf(stranger.rest);
        }
    }

    public int strays(int seed, int m, int x, int n, int y) {
        if (!canStray(seed, x, n) || !here.isCrossing(y) || m < 1 || m > STRANGERS) {
            return NOT_SUCH;
        }
        int sum = 0;
        for (int i = 0; i < m; i++) {
            stranger.stray(here, seed + i, x, n);
            if (stranger.at == y) {
                sum++;
            }
        }
        return sum;
    }

    private boolean canStray(int seed, int x, int n) {
        return seed >= 0 && seed <= MOST_SEED && here.isCrossing(x) && n >= 0 && n <= STRAY_STREETS;
    }

    // ---- building, laws, errands sent ----

    public int build(int x, int y, int n) {
        if (!here.isPair(x, y) || n < 0 || n > MOST_LENGTH) {
            return NOT_SUCH;
        }
        int was = here.lengths[arcOf(x, y)];
        boolean tooMany = was == 0 && n > 0 && here.streetCount >= MOST_STREETS;
        if (here.ledCount > 0 || tooMany) {
            return REFUSED;
        }
        here.layStreet(x, y, n);
        here.settle();
        changes++;
        return was;
    }

    public int law(int x, int y, int z, int n) {
        if (!here.areCrossings(x, y, z) || n < 0 || n > MOST_USES) {
            return NOT_SUCH;
        }
        if (!here.isTurn(x, y, z)) {
            return MISSING;
        }
        if (here.ledCount > 0) {
            return REFUSED;
        }
        int turn = turnOf(x, y, z);
        int was = here.morning[turn];
        here.setUses(turn, n);
        changes++;
        return was;
    }

    public int send(int errand, int x, int y, int hour) {
        if (!here.isErrand(errand) || !here.isPair(x, y) || hour < 0 || hour >= HOURS) {
            return NOT_SUCH;
        }
        int was = 100 * here.hours[errand] + 10 * here.from[errand] + here.to[errand];
        here.setErrand(errand, x, y, hour);
        changes++;
        return was;
    }

    public int count(int what) {
        switch (what) {
            case 0: return here.crossings;
            case 1: return here.streetCount;
            case 2: return here.turnCount;
            case 3: return here.usesForAll;
            case 4: return here.usesForHalf;
            case 5: return here.errandCount;
            case 6: return here.sumOf(here.rest);
            case 7: return here.ledCount;
            case 8: return here.lines;
            case 9: return reader.taped;
            case 10: return standingSlots();
            default: return NONE;
        }
    }

    private int standingSlots() {
        int sum = 0;
        for (int i = 0; i < SLOTS; i++) {
            if (slots[i].stands) {
                sum++;
            }
        }
        return sum;
    }

    // ---- images ----

    public int keep(int k) {
        if (k < 0 || k >= IMAGES) {
            return NOT_SUCH;
        }
        if (images[k] == null) {
            images[k] = new Town();
        }
        images[k].become(here);
        return 0;
    }

    public int back(int k) {
        if (k < 0 || k >= IMAGES) {
            return NOT_SUCH;
        }
        if (images[k] == null) {
            return NOTHING;
        }
        here.become(images[k]);
        changes++;
        return 0;
    }

    // ---- slots ----

    public int row(int slot, int width, int n) {
        if (slot < 0 || slot >= SLOTS || width < 0 || width >= WIDTHS || n > ROW_NUMBERS) {
            return NOT_SUCH;
        }
        if (n < 0) {
            return MISSING;
        }
        slots[slot].begin(width, n);
        return 0;
    }

    public int write(int slot, int i, long v) {
        if (slot < 0 || slot >= SLOTS) {
            return NOT_SUCH;
        }
        Numbers row = slots[slot];
        if (!row.stands) {
            return NOTHING;
        }
        if (i < 0 || i >= row.count) {
            return BEYOND;
        }
        row.put(i, v);
        return 0;
    }

    public int paste(int slot, int i, int to, int k, int n) {
        if (slot < 0 || slot >= SLOTS || to < 0 || to >= SLOTS) {
            return NOT_SUCH;
        }
        Numbers source = slots[slot];
        Numbers target = slots[to];
        if (!source.stands || !target.stands) {
            return NOTHING;
        }
        if (source.width != target.width) {
            return UNLIKE;
        }
        if (!source.spans(i, n) || !target.spans(k, n)) {
            return BEYOND;
        }
        System.arraycopy(source.numbers, i, target.numbers, k, n);
        return 0;
    }

    // ---- arcs and turns as numbers ----

    private static int arcOf(int x, int y) {
        return x * CROSSINGS + y;
    }

    private static int turnOf(int x, int y, int z) {
        return (x * CROSSINGS + y) * CROSSINGS + z;
    }

    private static int fromOf(int turn) {
        return turn / ARCS;
    }

    private static int byOf(int turn) {
        return turn / CROSSINGS % CROSSINGS;
    }

    private static int toOf(int turn) {
        return turn % CROSSINGS;
    }

    private static int arcInto(int turn) {
        return turn / CROSSINGS;
    }

    private static int arcOutOf(int turn) {
        return turn % ARCS;
    }

    private static int codeOf(int turn) {
        return 100 * fromOf(turn) + 10 * byOf(turn) + toOf(turn);
    }

    private static void copyUses(int[] source, int[] target) {
        System.arraycopy(source, 0, target, 0, TURNS);
    }

    /** The turns of a row of crossings are those at each crossing but its first and its last. */
    private static void addToTurns(int[] row, int count, int[] uses, int more) {
        for (int i = 2; i < count; i++) {
            uses[turnOf(row[i - 2], row[i - 1], row[i])] += more;
        }
    }

    /** A town as it is now: what was told of it, what is left, what was taken and given. */
    private static final class Town {
        private int crossings;
        private int usesForAll;
        private int usesForHalf;
        private int lines;
        private int streetCount;
        private int arcCount;
        private int turnCount;
        private int errandCount;
        private int ledCount;
        private final int[] lengths = new int[ARCS];
        private final int[] degrees = new int[CROSSINGS];
        private final int[] nearby = new int[ARCS];
        private final int[] arcs = new int[ARCS];
        private final int[] turns = new int[TURNS];
        private final int[] morning = new int[TURNS];
        private final int[] rest = new int[TURNS];
        private final int[] from = new int[MOST_ERRANDS];
        private final int[] to = new int[MOST_ERRANDS];
        private final int[] hours = new int[MOST_ERRANDS];
        private final int[] led = new int[MOST_LED];

        /** A town without crossings is none: no argument can name a crossing of it. */
        private boolean stands() {
            return crossings > 0;
        }

        private boolean isCrossing(int x) {
            return x >= 0 && x < crossings;
        }

        private boolean areCrossings(int x, int y, int z) {
            return isCrossing(x) && isCrossing(y) && isCrossing(z);
        }

        private boolean isPair(int x, int y) {
            return isCrossing(x) && isCrossing(y) && x != y;
        }

        private boolean isTurn(int x, int y, int z) {
            return areCrossings(x, y, z) && lengths[arcOf(x, y)] > 0 && lengths[arcOf(y, z)] > 0;
        }

        private boolean isErrand(int errand) {
            return errand >= 0 && errand < errandCount;
        }

        /** Its lists stay as they are: a town that is read is settled when another becomes it. */
        private void clear() {
            crossings = 0;
            usesForAll = 0;
            usesForHalf = 0;
            lines = 0;
            streetCount = 0;
            errandCount = 0;
            ledCount = 0;
            Arrays.fill(lengths, 0);
        }

        private void become(Town other) {
            crossings = other.crossings;
            usesForAll = other.usesForAll;
            usesForHalf = other.usesForHalf;
            lines = other.lines;
            streetCount = other.streetCount;
            errandCount = other.errandCount;
            ledCount = other.ledCount;
            System.arraycopy(other.lengths, 0, lengths, 0, ARCS);
            copyUses(other.morning, morning);
            copyUses(other.rest, rest);
            System.arraycopy(other.from, 0, from, 0, MOST_ERRANDS);
            System.arraycopy(other.to, 0, to, 0, MOST_ERRANDS);
            System.arraycopy(other.hours, 0, hours, 0, MOST_ERRANDS);
            System.arraycopy(other.led, 0, led, 0, MOST_LED);
            settle();
        }

        /** Lists of neighbours, arcs and turns stand in order of numbers, so that the first found is the least. */
        private void settle() {
            arcCount = 0;
            for (int x = 0; x < CROSSINGS; x++) {
                degrees[x] = 0;
                for (int y = 0; y < CROSSINGS; y++) {
                    if (lengths[arcOf(x, y)] > 0) {
                        nearby[arcOf(x, degrees[x])] = y;
                        degrees[x]++;
                        arcs[arcCount] = arcOf(x, y);
                        arcCount++;
                    }
                }
            }
            listTurns();
        }

        private void listTurns() {
            turnCount = 0;
            for (int i = 0; i < arcCount; i++) {
                int y = arcs[i] % CROSSINGS;
                for (int k = 0; k < degrees[y]; k++) {
                    turns[turnCount] = arcs[i] * CROSSINGS + nearby[arcOf(y, k)];
                    turnCount++;
                }
            }
        }

        /** Who lays streets settles the town when all are laid. */
        private void layStreet(int x, int y, int length) {
            boolean stood = lengths[arcOf(x, y)] > 0;
            lengths[arcOf(x, y)] = length;
            lengths[arcOf(y, x)] = length;
            if (stood && length == 0) {
                streetCount--;
            }
            if (!stood && length > 0) {
                streetCount++;
                forgetTurns(x, y);
                forgetTurns(y, x);
            }
        }

        /** A new street's turns know nothing of laws that were told for an older one there. */
        private void forgetTurns(int x, int y) {
            int arc = arcOf(x, y);
            for (int z = 0; z < CROSSINGS; z++) {
                setUses(arc * CROSSINGS + z, z == x ? usesForHalf : usesForAll);
                setUses(z * ARCS + arc, z == y ? usesForHalf : usesForAll);
            }
        }

        private void setUses(int turn, int uses) {
            morning[turn] = uses;
            rest[turn] = uses;
        }

        private void setErrand(int errand, int x, int y, int hour) {
            from[errand] = x;
            to[errand] = y;
            hours[errand] = hour;
        }

        private void takeBackLatest() {
            if (ledCount > 0) {
                ledCount--;
                rest[led[ledCount] / 2] += led[ledCount] % 2 == 1 ? 1 : -1;
            }
        }

        private int sumOf(int[] uses) {
            int sum = 0;
            for (int i = 0; i < turnCount; i++) {
                sum += uses[turns[i]];
            }
            return sum;
        }
    }

    /** The tape, and the town that is read from it up to the first fault. */
    private static final class Reader {
        private static final int END = 0;
        private static final int WORD = 1;
        private static final int NUMBER = 2;
        private static final int SIGN = 3;
        private static final int BAD = 4;

        private static final int MISPLACED = 1;
        private static final int OUT_OF_BOUNDS = 2;
        private static final int TOO_MANY = 3;

        /** Far above every bound, so that digits without end stay out of bounds and never wrap. */
        private static final int HUGE = 1000000;

        private final byte[] tape = new byte[TAPE_BYTES];
        private final Town draft = new Town();
        private int taped;
        private int kind;
        private int start;
        private int stop;
        private int fault;
        private int place = NONE;

        private void lay(int four) {
            for (int shift = 24; shift >= 0 && taped < TAPE_BYTES; shift -= 8) {
                tape[taped] = (byte) (four >> shift);
                taped++;
            }
        }

        /** The tape is empty behind it, with a fault, too: the next text begins anew. */
        private void read() {
            fault = 0;
            place = NONE;
            stop = 0;
            draft.clear();
            advance();
            for (int i = 0; i <= taped && kind != END && fault == 0; i++) {
                readLine();
            }
            taped = 0;
        }

        private void readLine() {
            boolean isFirst = draft.lines == 0;
            if (isWord("town") != isFirst) {
                blame(MISPLACED);
            } else if (isFirst) {
                readTown();
            } else if (isWord("street")) {
                readStreet();
            } else if (isWord("turn")) {
                readTurn();
            } else if (isWord("errand")) {
                readErrand();
            } else {
                blame(MISPLACED);
            }
            check(kind == SIGN, MISPLACED);
            advance();
            draft.lines++;
        }

        private void readTown() {
            passWord("town");
            passWord("crossings");
            int crossings = number(2, CROSSINGS);
            advance();
            passWord("uses");
            int uses = number(0, 3);
            advance();
            passWord("half");
            int half = number(0, 3);
            advance();
            draft.crossings = crossings;
            draft.usesForAll = uses;
            draft.usesForHalf = half;
        }

        private void readStreet() {
            passWord("street");
            int last = draft.crossings - 1;
            int x = number(0, last);
            advance();
            int y = number(0, last);
            check(x != y, OUT_OF_BOUNDS);
            advance();
            int length = number(1, MOST_LENGTH);
            boolean isNew = draft.lengths[arcOf(x, y)] == 0;
            check(!isNew || draft.streetCount < MOST_STREETS, TOO_MANY);
            advance();
            if (fault == 0) {
                draft.layStreet(x, y, length);
            }
        }

        private void readTurn() {
            passWord("turn");
            int last = draft.crossings - 1;
            int x = number(0, last);
            advance();
            int y = number(0, last);
            check(draft.lengths[arcOf(x, y)] > 0, OUT_OF_BOUNDS);
            advance();
            int z = number(0, last);
            check(draft.lengths[arcOf(y, z)] > 0, OUT_OF_BOUNDS);
            advance();
            passWord("uses");
            int uses = number(0, MOST_USES);
            advance();
            if (fault == 0) {
                draft.setUses(turnOf(x, y, z), uses);
            }
        }

        private void readErrand() {
            check(draft.errandCount < MOST_ERRANDS, TOO_MANY);
            passWord("errand");
            int last = draft.crossings - 1;
            int x = number(0, last);
            advance();
            int y = number(0, last);
            check(x != y, OUT_OF_BOUNDS);
            advance();
            passWord("at");
            int hour = number(0, HOURS - 1);
            advance();
            if (fault == 0 && draft.errandCount < MOST_ERRANDS) {
                draft.setErrand(draft.errandCount, x, y, hour);
                draft.errandCount++;
            }
        }

        /** The number that stands here; it is passed only when all that is asked of it has been looked at. */
        private int number(int low, int high) {
            check(kind == NUMBER, MISPLACED);
            if (fault != 0) {
                return 0;
            }
            int value = valueHere();
            check(value >= low && value <= high, OUT_OF_BOUNDS);
            return fault == 0 ? value : 0;
        }

        private int valueHere() {
            int value = 0;
            for (int i = start; i < stop; i++) {
                value = Math.min(value * 10 + (tape[i] - '0'), HUGE);
            }
            return value;
        }

        private void passWord(String word) {
            check(isWord(word), MISPLACED);
            advance();
        }

        private void check(boolean fits, int what) {
            if (!fits) {
                blame(what);
            }
        }

        private void blame(int what) {
            if (fault == 0) {
                fault = what;
                place = start;
            }
        }

        private boolean isWord(String word) {
            if (kind != WORD || stop - start != word.length()) {
                return false;
            }
            for (int i = 0; i < word.length(); i++) {
                if (tape[start + i] != word.charAt(i)) {
                    return false;
                }
            }
            return true;
        }

        /** Behind a fault nothing is read any more: the token stays where it is. */
        private void advance() {
            if (fault != 0) {
                return;
            }
            start = stop;
            while (start < taped && (tape[start] == ' ' || tape[start] == '\n')) {
                start++;
            }
            stop = start;
            kind = kindAt(start);
            if (kind == WORD || kind == NUMBER) {
                while (stop < taped && kindAt(stop) == kind) {
                    stop++;
                }
            } else if (kind != END) {
                stop++;
            }
        }

        private int kindAt(int i) {
            if (i < 0 || i >= taped) {
                return END;
            }
            int sign = tape[i];
            if (sign >= 'a' && sign <= 'z') {
                return WORD;
            }
            if (sign >= '0' && sign <= '9') {
                return NUMBER;
            }
            return sign == ';' ? SIGN : BAD;
        }
    }

    /** Finds first ways by what they cost from each arc to their end. */
    private static final class Ways {
        private final int[] costs = new int[ARCS];
        private final int[] found = new int[WAY_CROSSINGS];
        private int count;
        private int cost;
        private final int[] queue = new int[ARCS];
        private final int[] seen = new int[ARCS];

        private int boughtTurns() {
            return cost / BUY_COST;
        }

        private int wayLength() {
            return cost / LENGTH_COST % (BUY_COST / LENGTH_COST);
        }

        private boolean find(Town town, int[] rest, int x, int y, int mode) {
            found[0] = x;
            count = 1;
            cost = 0;
            if (x == y) {
                return true;
            }
            priceArcs(town, rest, y, mode);
            for (int i = 1; i < WAY_CROSSINGS; i++) {
                int next = cheapestFrom(town, rest, mode);
                if (next == NONE) {
                    count = 0;
                    return false;
                }
                if (i == 1) {
                    cost = costs[arcOf(x, next)];
                }
                found[i] = next;
                count = i + 1;
                if (next == y) {
                    return true;
                }
            }
            return false;
        }

        /** What it costs from the beginning of each arc, that arc itself with it, to the end at y. */
        private void priceArcs(Town town, int[] rest, int y, int mode) {
            for (int i = 0; i < town.arcCount; i++) {
                int arc = town.arcs[i];
                costs[arc] = arc % CROSSINGS == y ? priceOf(town, arc) : FAR;
            }
            boolean changed = true;
            for (int round = 0; round <= ARCS && changed; round++) {
                changed = false;
                for (int i = 0; i < town.turnCount; i++) {
                    int turn = town.turns[i];
                    int arc = turn / CROSSINGS;
                    int price = priceOf(town, arc) + costOver(rest, turn, mode);
                    if (price < costs[arc]) {
                        costs[arc] = price;
                        changed = true;
                    }
                }
            }
        }

        private int priceOf(Town town, int arc) {
            return LENGTH_COST * town.lengths[arc] + STREET_COST;
        }

        /** What it costs to go on by a turn, the turn itself with it; FAR, or more, if one can't. */
        private int costOver(int[] rest, int turn, int mode) {
            int onward = costs[turn % ARCS];
            if (rest[turn] > 0 || mode == BARE) {
                return onward;
            }
            return mode == BY_BUYING ? BUY_COST + onward : FAR;
        }

        /** The least crossing of those by which the way that stands so far costs least. */
        private int cheapestFrom(Town town, int[] rest, int mode) {
            int at = found[count - 1];
            int best = FAR;
            int next = NONE;
            for (int i = 0; i < town.degrees[at]; i++) {
                int z = town.nearby[arcOf(at, i)];
                int price = count < 2 ? costs[arcOf(at, z)] : costOver(rest, turnOf(found[count - 2], at, z), mode);
                if (price < best) {
                    best = price;
                    next = z;
                }
            }
            return next;
        }

        /** What is bought is given back just for the way, so a turn without a use stays without. */
        private void spendWhatIsLeft(int[] rest) {
            for (int i = 2; i < count; i++) {
                int turn = turnOf(found[i - 2], found[i - 1], found[i]);
                rest[turn] = Math.max(rest[turn] - 1, 0);
            }
        }

        private void burn(int[] rest) {
            for (int i = 2; i < count; i++) {
                rest[turnOf(found[i - 2], found[i - 1], found[i])] = 0;
            }
        }

        private int within(Town town, int[] rest, int x) {
            Arrays.fill(seen, 0);
            int bits = 1 << x;
            int size = 0;
            for (int i = 0; i < town.degrees[x]; i++) {
                size = visit(arcOf(x, town.nearby[arcOf(x, i)]), size);
            }
            for (int k = 0; k < size && k < ARCS; k++) {
                int by = queue[k] % CROSSINGS;
                bits |= 1 << by;
                for (int i = 0; i < town.degrees[by]; i++) {
                    int turn = queue[k] * CROSSINGS + town.nearby[arcOf(by, i)];
                    if (rest[turn] > 0) {
                        size = visit(arcOutOf(turn), size);
                    }
                }
            }
            return bits;
        }

        private int visit(int arc, int size) {
            if (seen[arc] == 1 || size >= ARCS) {
                return size;
            }
            seen[arc] = 1;
            queue[size] = arc;
            return size + 1;
        }

        private int shutPairs(Town town, int[] rest) {
            int sum = 0;
            for (int x = 0; x < town.crossings; x++) {
                sum += town.crossings - Integer.bitCount(within(town, rest, x));
            }
            return sum;
        }
    }

    /** A greatest flow of ways at once, arc by arc over turns, and what cuts it. */
    private static final class Streams {
        private static final int SOURCE = -1000;
        /** Above all uses of all turns: each search adds one way at least. */
        private static final int MOST_WAYS = 9 * TURNS;

        private final int[] flows = new int[TURNS];
        private final int[] seen = new int[ARCS];
        private final int[] queue = new int[ARCS];
        private int queued;
        /** By which turn an arc was come to: the turn, or, where its flow was sent back, -1 less the turn. */
        private final int[] via = new int[ARCS];
        private int total;

        private void fill(Town town, int x, int y) {
            Arrays.fill(flows, 0);
            total = 0;
            int last = search(town, x, y);
            for (int i = 0; i < MOST_WAYS && last != NONE; i++) {
                int more = roomTo(town, last);
                pushTo(last, more);
                total += more;
                last = search(town, x, y);
            }
        }

        /** An arc into y that can be come to in what is left of the flow. */
        private int search(Town town, int x, int y) {
            Arrays.fill(seen, 0);
            queued = 0;
            for (int i = 0; i < town.degrees[x]; i++) {
                visit(arcOf(x, town.nearby[arcOf(x, i)]), SOURCE);
            }
            for (int k = 0; k < queued && k < ARCS; k++) {
                int arc = queue[k];
                if (arc % CROSSINGS == y) {
                    return arc;
                }
                visitOnward(town, arc);
                visitBackward(town, arc);
            }
            return NONE;
        }

        private void visitOnward(Town town, int arc) {
            int by = arc % CROSSINGS;
            for (int i = 0; i < town.degrees[by]; i++) {
                int turn = arc * CROSSINGS + town.nearby[arcOf(by, i)];
                if (flows[turn] < town.rest[turn]) {
                    visit(arcOutOf(turn), turn);
                }
            }
        }

        private void visitBackward(Town town, int arc) {
            int by = arc / CROSSINGS;
            for (int i = 0; i < town.degrees[by]; i++) {
                int turn = town.nearby[arcOf(by, i)] * ARCS + arc;
                if (flows[turn] > 0) {
                    visit(arcInto(turn), -1 - turn);
                }
            }
        }

        private void visit(int arc, int turn) {
            if (seen[arc] == 0 && queued < ARCS) {
                seen[arc] = 1;
                via[arc] = turn;
                queue[queued] = arc;
                queued++;
            }
        }

        private int before(int arc) {
            return via[arc] >= 0 ? arcInto(via[arc]) : arcOutOf(-1 - via[arc]);
        }

        private int roomTo(Town town, int last) {
            int room = MOST_WAYS;
            int arc = last;
            for (int i = 0; i < ARCS && via[arc] != SOURCE; i++) {
                int turn = via[arc];
                room = Math.min(room, turn >= 0 ? town.rest[turn] - flows[turn] : flows[-1 - turn]);
                arc = before(arc);
            }
            return room;
        }

        private void pushTo(int last, int more) {
            int arc = last;
            for (int i = 0; i < ARCS && via[arc] != SOURCE; i++) {
                if (via[arc] >= 0) {
                    flows[via[arc]] += more;
                } else {
                    flows[-1 - via[arc]] -= more;
                }
                arc = before(arc);
            }
        }

        /** Only behind fill: its last search came to all arcs that can be come to. */
        private boolean cuts(Town town, int turn) {
            return town.rest[turn] > 0 && seen[arcInto(turn)] == 1 && seen[arcOutOf(turn)] == 0;
        }

        private int cutTurns(Town town) {
            int sum = 0;
            for (int i = 0; i < town.turnCount; i++) {
                if (cuts(town, town.turns[i])) {
                    sum++;
                }
            }
            return sum;
        }

        private int cutTurn(Town town, int number) {
            int passed = 0;
            for (int i = 0; i < town.turnCount; i++) {
                if (cuts(town, town.turns[i])) {
                    if (passed == number) {
                        return codeOf(town.turns[i]);
                    }
                    passed++;
                }
            }
            return NONE;
        }
    }

    /** A day of errands by hours, on uses of its own, so that the town stays as it is. */
    private static final class Day {
        private final int[] rest = new int[TURNS];
        private final int[] went = new int[MOST_ERRANDS];
        private int done;
        private int firstToFail;

        private void pass(Town town, Ways ways, int without) {
            copyUses(town.rest, rest);
            done = 0;
            firstToFail = NONE;
            for (int hour = 0; hour < HOURS; hour++) {
                for (int e = 0; e < town.errandCount; e++) {
                    if (town.hours[e] == hour && e != without) {
                        run(town, ways, e);
                    }
                }
            }
        }

        private void run(Town town, Ways ways, int errand) {
            if (ways.find(town, rest, town.from[errand], town.to[errand], BY_USES)) {
                went[errand] = ways.wayLength();
                done++;
                addToTurns(ways.found, ways.count, rest, -1);
            } else {
                went[errand] = NONE;
                if (firstToFail == NONE) {
                    firstToFail = errand;
                }
            }
        }
    }

    /** All orders of errands, the least row first, each on what those ahead of it left. */
    private static final class Orders {
        private final int[] rest = new int[TURNS];
        private final int[][] gone = new int[MOST_ERRANDS][WAY_CROSSINGS];
        private final int[] order = new int[MOST_ERRANDS];
        private final int[] best = new int[MOST_ERRANDS];
        private int bestDone;
        private int leastLength;

        private void tryAll(Town town, Ways ways) {
            copyUses(town.rest, rest);
            bestDone = NONE;
            leastLength = 0;
            tryFrom(town, ways, 0, 0, 0);
        }

        /** The set of errands that have had their try tells, by its size, how deep this is. */
        private void tryFrom(Town town, Ways ways, int tried, int done, int length) {
            int depth = Integer.bitCount(tried);
            if (depth >= town.errandCount || depth >= MOST_ERRANDS) {
                judge(done, length);
                return;
            }
            for (int e = 0; e < town.errandCount; e++) {
                if ((tried >> e & 1) == 0) {
                    order[depth] = e;
                    tryErrand(town, ways, tried | 1 << e, done, length);
                }
            }
        }

        private void tryErrand(Town town, Ways ways, int tried, int done, int length) {
            int depth = Integer.bitCount(tried) - 1;
            if (depth < 0 || depth >= MOST_ERRANDS) {
                return;
            }
            int errand = order[depth];
            if (!ways.find(town, rest, town.from[errand], town.to[errand], BY_USES)) {
                tryFrom(town, ways, tried, done, length);
                return;
            }
            int count = ways.count;
            int further = length + ways.wayLength();
            System.arraycopy(ways.found, 0, gone[depth], 0, WAY_CROSSINGS);
            addToTurns(gone[depth], count, rest, -1);
            tryFrom(town, ways, tried, done + 1, further);
            addToTurns(gone[depth], count, rest, 1);
        }

        private void judge(int done, int length) {
            if (done > bestDone) {
                bestDone = done;
                leastLength = length;
                System.arraycopy(order, 0, best, 0, MOST_ERRANDS);
            } else if (done == bestDone) {
                leastLength = Math.min(leastLength, length);
            }
        }
    }

    /** All walks of so many streets from a crossing, told by where they end. */
    private static final class Walks {
        private final int[] counts = new int[CROSSINGS];
        private final int[] common = new int[CROSSINGS];

        /** The uses are taken while walks go on, and are all back behind the last. */
        private void walkAll(Town town, int[] rest, int x, int n) {
            Arrays.fill(counts, 0);
            Arrays.fill(common, -1);
            if (n == 0) {
                tally(x, 1 << x);
                return;
            }
            for (int i = 0; i < town.degrees[x]; i++) {
                int y = town.nearby[arcOf(x, i)];
                walkOn(town, rest, arcOf(x, y), 1 << x | 1 << y, n - 1);
            }
        }

        private void walkOn(Town town, int[] rest, int arc, int passed, int n) {
            int by = arc % CROSSINGS;
            if (n <= 0) {
                tally(by, passed);
                return;
            }
            for (int i = 0; i < town.degrees[by]; i++) {
                int z = town.nearby[arcOf(by, i)];
                int turn = arc * CROSSINGS + z;
                if (rest[turn] > 0) {
                    rest[turn]--;
                    walkOn(town, rest, arcOutOf(turn), passed | 1 << z, n - 1);
                    rest[turn]++;
                }
            }
        }

        private void tally(int at, int passed) {
            counts[at]++;
            common[at] &= passed;
        }

        private int sum() {
            int sum = 0;
            for (int i = 0; i < CROSSINGS; i++) {
                sum += counts[i];
            }
            return sum;
        }

        private int endBits() {
            int bits = 0;
            for (int i = 0; i < CROSSINGS; i++) {
                if (counts[i] > 0) {
                    bits |= 1 << i;
                }
            }
            return bits;
        }
    }

    /** The round of all turns with a use left, and the game of turning. */
    private static final class Game {
        private static final int LOST = -101;
        private static final int TOO_MANY = -102;

        private final int[] rest = new int[TURNS];
        private final int[] balance = new int[ARCS];
        private final int[] queue = new int[ARCS];
        private final int[] seen = new int[ARCS];

        private int unevenArcs(Town town) {
            Arrays.fill(balance, 0);
            for (int i = 0; i < town.turnCount; i++) {
                int turn = town.turns[i];
                if (town.rest[turn] > 0) {
                    balance[arcInto(turn)]--;
                    balance[arcOutOf(turn)]++;
                }
            }
            int sum = 0;
            for (int arc = 0; arc < ARCS; arc++) {
                if (balance[arc] != 0) {
                    sum++;
                }
            }
            return sum;
        }

        /** Where all arcs are even, what can be come to from one turn on is all that hangs together with it. */
        private boolean hasRound(Town town) {
            int begin = NONE;
            for (int i = 0; i < town.turnCount && begin == NONE; i++) {
                if (town.rest[town.turns[i]] > 0) {
                    begin = arcInto(town.turns[i]);
                }
            }
            if (begin == NONE || unevenArcs(town) > 0) {
                return false;
            }
            follow(town, begin);
            for (int i = 0; i < town.turnCount; i++) {
                if (town.rest[town.turns[i]] > 0 && seen[arcInto(town.turns[i])] == 0) {
                    return false;
                }
            }
            return true;
        }

        private void follow(Town town, int begin) {
            Arrays.fill(seen, 0);
            seen[begin] = 1;
            queue[0] = begin;
            int size = 1;
            for (int k = 0; k < size && k < ARCS; k++) {
                int by = queue[k] % CROSSINGS;
                for (int i = 0; i < town.degrees[by]; i++) {
                    int turn = queue[k] * CROSSINGS + town.nearby[arcOf(by, i)];
                    int next = arcOutOf(turn);
                    if (town.rest[turn] > 0 && seen[next] == 0 && size < ARCS) {
                        seen[next] = 1;
                        queue[size] = next;
                        size++;
                    }
                }
            }
        }

        private int play(Town town, int x, int y) {
            int uses = town.sumOf(town.rest);
            if (uses > GAME_USES) {
                return TOO_MANY;
            }
            copyUses(town.rest, rest);
            return winningTurn(town, arcOf(x, y), uses);
        }

        /** The least crossing to which to turn so that the other loses; each turn leaves one use less. */
        private int winningTurn(Town town, int arc, int uses) {
            if (uses <= 0) {
                return LOST;
            }
            int by = arc % CROSSINGS;
            for (int i = 0; i < town.degrees[by]; i++) {
                int z = town.nearby[arcOf(by, i)];
                int turn = arc * CROSSINGS + z;
                if (rest[turn] > 0) {
                    rest[turn]--;
                    int answer = winningTurn(town, arcOutOf(turn), uses - 1);
                    rest[turn]++;
                    if (answer == LOST) {
                        return z;
                    }
                }
            }
            return LOST;
        }
    }

    /** One who goes where draws tell, on uses of his own. */
    private static final class Stranger {
        private final int[] rest = new int[TURNS];
        private final int[] options = new int[CROSSINGS];
        private long number;
        private int at;
        private int went;

        private void stray(Town town, int seed, int x, int n) {
            copyUses(town.rest, rest);
            number = seed;
            at = x;
            went = 0;
            int before = NONE;
            for (int i = 0; i < n; i++) {
                int next = choose(town, before);
                if (next == NONE) {
                    return;
                }
                if (before != NONE) {
                    rest[turnOf(before, at, next)]--;
                }
                before = at;
                at = next;
                went++;
            }
        }

        private int choose(Town town, int before) {
            int size = 0;
            for (int i = 0; i < town.degrees[at] && size < CROSSINGS; i++) {
                int z = town.nearby[arcOf(at, i)];
                if (before == NONE || rest[turnOf(before, at, z)] > 0) {
                    options[size] = z;
                    size++;
                }
            }
            return size == 0 ? NONE : options[draw(size)];
        }

        private int draw(int n) {
            number = (1103515245L * number + 12345L) % 2147483648L;
            return n < 1 ? 0 : (int) (number / 65536L % n);
        }
    }

    /** A slot: a row of numbers of one width, or nothing. */
    private static final class Numbers {
        private final long[] numbers = new long[ROW_NUMBERS];
        private boolean stands;
        private int width;
        private int count;

        private void begin(int widthOfAll, int n) {
            Arrays.fill(numbers, 0L);
            stands = true;
            width = widthOfAll;
            count = n;
        }

        private void put(int i, long v) {
            switch (width) {
                case 0:
                    numbers[i] = (byte) v;
                    break;
                case 1:
                    numbers[i] = (short) v;
                    break;
                case 2:
                    numbers[i] = (int) v;
                    break;
                default:
                    numbers[i] = v;
                    break;
            }
        }

        private boolean spans(int i, int n) {
            return i >= 0 && n >= 0 && n <= count && i <= count - n;
        }

        private boolean areCrossingsOf(Town town) {
            for (int i = 0; i < count; i++) {
                if (numbers[i] < 0 || numbers[i] >= town.crossings) {
                    return false;
                }
            }
            return true;
        }

        private int crossingAt(int i) {
            return i >= 0 && i < count ? (int) numbers[i] : 0;
        }
    }
}
