/**
 * Towns joined by bundles of wires, and calls that go straight or over a sticky town between.
 * This class looks at what it is told, counts what it refuses and keeps states to go back to;
 * Net holds what happens in the net, Text what is told in letters.
 */
public final class StickyRoutes {
    public static final int NONE = -1, BAD = -2, NO = -3, FULL = -4;

    private static final int REFUSED = -5;
    private static final int FAULTS_FROM = -10;
    private static final int MOST_STATES = 5;
    private static final int MOST_HOURS = 48;
    private static final int MOST_SEED = 999999;
    private static final int MOST_BYTE = 127;
    private static final int DIGEST_START = 2129;
    /** More than 48 hours of plans can ask for. */
    private static final int NO_LIMIT = 1000000;

    private final Net now;
    private final Net trial;
    private final Net[] states;
    private final Text text;
    private int stateCount;
    private int nextState;
    private int badTimes;
    private int noTimes;
    private int fullTimes;

    public StickyRoutes() {
        now = new Net();
        trial = new Net();
        states = new Net[MOST_STATES];
        for (int i = 0; i < MOST_STATES; i++) {
            states[i] = new Net();
        }
        text = new Text();
    }

    // ---- towns

    public int towns(int v) {
        if (!within(v, Net.LEAST_TOWNS, Net.MOST_TOWNS)) {
            return refuse(BAD);
        }
        keepState();
        int was = now.townCount;
        now.begin(v);
        return was;
    }

    public int link(int a, int b, int what, int v) {
        if (!isPair(a, b) || !within(what, 0, 1) || !within(v, 0, Net.MOST_WIRES)) {
            return refuse(BAD);
        }
        keepState();
        int[] row = what == 0 ? now.wires : now.reserves;
        int link = Net.linkCell(a, b);
        int was = row[link];
        row[link] = v;
        return was;
    }

    public int links(int what, int v) {
        if (!within(what, 0, 1) || !within(v, 0, Net.MOST_WIRES)) {
            return refuse(BAD);
        }
        keepState();
        Net.fill(what == 0 ? now.wires : now.reserves, v);
        return now.townCount * (now.townCount - 1) / 2;
    }

    public int back(int on) {
        if (!within(on, 0, 1)) {
            return refuse(BAD);
        }
        keepState();
        int was = now.handsBack;
        now.handsBack = on;
        return was;
    }

    public int load(int hour, int v) {
        if (!within(hour, 0, Net.DAY - 1) || !within(v, 0, Net.MOST_LOAD)) {
            return refuse(BAD);
        }
        keepState();
        int was = now.loads[hour];
        now.loads[hour] = v;
        return was;
    }

    public int seed(int v) {
        if (!within(v, 0, MOST_SEED)) {
            return refuse(BAD);
        }
        keepState();
        now.x = v;
        return 1;
    }

    public int of(int a, int b, int what) {
        if (!isPair(a, b) || !within(what, 0, 3)) {
            return refuse(BAD);
        }
        int link = Net.linkCell(a, b);
        switch (what) {
            case 0: return now.wires[link];
            case 1: return now.reserves[link];
            case 2: return now.freeWires(link);
            default: return now.callsOverLink(link);
        }
    }

    public int sticky(int a, int b) {
        return isPair(a, b) ? now.stickies[Net.pairCell(a, b)] : refuse(BAD);
    }

    // ---- calls

    public int call(int a, int b, int h) {
        if (!isPair(a, b) || !within(h, 1, Net.LONGEST_CALL)) {
            return refuse(BAD);
        }
        if (now.callCount >= Net.MOST_CALLS) {
            return refuse(FULL);
        }
        keepState();
        return now.ask(a, b, h);
    }

    public int hours(int n) {
        if (!within(n, 1, MOST_HOURS)) {
            return refuse(BAD);
        }
        keepState();
        return now.passHours(n);
    }

    public int going(int k, int what) {
        if (k < 0 || !within(what, 0, Net.CALL_PARTS - 1)) {
            return refuse(BAD);
        }
        return k < now.callCount ? now.calls[k * Net.CALL_PARTS + what] : NONE;
    }

    public int ends(int k) {
        if (k < 0) {
            return refuse(BAD);
        }
        if (k >= now.callCount) {
            return refuse(NO);
        }
        keepState();
        now.endCall(k);
        return now.callCount;
    }

    // ---- counts

    public int all(int what) {
        return within(what, 0, Net.COUNTS - 1) ? now.totals[what] : refuse(BAD);
    }

    public int pair(int a, int b, int what) {
        if (!isPair(a, b) || !within(what, 0, Net.COUNTS - 1)) {
            return refuse(BAD);
        }
        return now.counts[what * Net.CELLS + Net.pairCell(a, b)];
    }

    public int worst(int what) {
        if (!within(what, 0, 3)) {
            return refuse(BAD);
        }
        int cell = what < 2 ? now.mostRefusedPair() : now.scarcestLink();
        switch (what) {
            case 1: return now.refusedAt(cell);
            case 3: return now.freeWires(cell);
            default: return cell / Net.MOST_TOWNS * 10 + cell % Net.MOST_TOWNS;
        }
    }

    public int burden() {
        return now.callCount == 0 ? 0 : now.wiresHeld() * 1000 / now.callCount;
    }

    // ---- what would be

    public int would(int n, int r) {
        if (!within(n, 1, MOST_HOURS) || !within(r, 0, Net.MOST_WIRES)) {
            return refuse(BAD);
        }
        return refusedWith(r, n, NO_LIMIT);
    }

    public int best(int n, int what) {
        if (!within(n, 1, MOST_HOURS) || !within(what, 0, 1)) {
            return refuse(BAD);
        }
        int bestReserve = 0;
        int fewest = NO_LIMIT;
        for (int r = 0; r <= Net.MOST_WIRES && fewest > 0; r++) {
            int refused = refusedWith(r, n, fewest);
            if (refused < fewest) {
                fewest = refused;
                bestReserve = r;
            }
        }
        return what == 0 ? bestReserve : fewest;
    }

    public int choked(int what) {
        if (!within(what, 0, 1)) {
            return refuse(BAD);
        }
        int choked = 0;
        for (int a = 0; a < now.townCount; a++) {
            for (int b = 0; b < now.townCount; b++) {
                if (a != b && (what == 0 ? now.wayNow(a, b) == REFUSED : !now.hasAnyWay(a, b))) {
                    choked++;
                }
            }
        }
        return choked;
    }

    // ---- texts

    public int type(int c) {
        if (!within(c, 0, MOST_BYTE)) {
            return refuse(BAD);
        }
        return text.append(c) ? text.length : refuse(FULL);
    }

    public int clear() {
        int had = text.length;
        text.length = 0;
        return had;
    }

    public int does() {
        int fault = text.read(now.townCount);
        if (fault != NONE) {
            return FAULTS_FROM - fault;
        }
        keepState();
        int gone = 0;
        for (int i = 0; i < text.orderCount; i++) {
            if (now.doOrder(text.orders, i * Text.ORDER_PARTS)) {
                gone++;
            }
        }
        return gone;
    }

    public int undo() {
        if (stateCount == 0) {
            return refuse(NO);
        }
        stateCount--;
        nextState = (nextState + MOST_STATES - 1) % MOST_STATES;
        now.copyFrom(states[nextState]);
        return stateCount;
    }

    public int told(int what) {
        switch (what) {
            case 0: return badTimes;
            case 1: return noTimes;
            case 2: return fullTimes;
            case 3: return text.length;
            case 4: return now.townCount;
            case 5: return now.handsBack;
            case 6: return now.callCount;
            case 7: return now.hoursGone;
            case 8: return now.x;
            case 9: return stateCount;
            default: return refuse(BAD);
        }
    }

    public long digest() {
        long h = DIGEST_START;
        for (int what = 0; what <= 9; what++) {
            h = 31 * h + told(what);
        }
        h = now.mixLinks(h);
        h = now.mixPairs(h);
        return now.mixLoadsAndCalls(h);
    }

    private static boolean within(int v, int least, int most) {
        return v >= least && v <= most;
    }

    private boolean isPair(int a, int b) {
        return a != b && within(a, 0, now.townCount - 1) && within(b, 0, now.townCount - 1);
    }

    private int refuse(int why) {
        if (why == BAD) {
            badTimes++;
        } else if (why == NO) {
            noTimes++;
        } else {
            fullTimes++;
        }
        return why;
    }

    /** The states go round in a ring, so that the oldest one is the one overwritten. */
    private void keepState() {
        states[nextState].copyFrom(now);
        nextState = (nextState + 1) % MOST_STATES;
        if (stateCount < MOST_STATES) {
            stateCount++;
        }
    }

    /** Stops as soon as the limit is reached: best() has no use for a reserve that does no better. */
    private int refusedWith(int reserve, int hourCount, int limit) {
        trial.copyFrom(now);
        Net.fill(trial.reserves, reserve);
        int refused = 0;
        for (int i = 0; i < hourCount && refused < limit; i++) {
            trial.passHours(1);
            refused = trial.totals[Net.REFUSALS] - now.totals[Net.REFUSALS];
        }
        return refused;
    }

    /** The net of one moment: towns, links, plans, counts and the calls that go on. */
    private static final class Net {
        static final int LEAST_TOWNS = 3, MOST_TOWNS = 6, FIRST_TOWNS = 4;
        static final int CELLS = MOST_TOWNS * MOST_TOWNS;
        static final int MOST_WIRES = 30, FIRST_WIRES = 5;
        static final int MOST_CALLS = 80, LONGEST_CALL = 24;
        static final int DAY = 24, MOST_LOAD = 9;
        /** The counts: how each call that is asked comes out. */
        static final int ASKED = 0, STRAIGHTS = 1, OVERS = 2, BACKS = 3, REFUSALS = 4, COUNTS = 5;
        /** The parts of a call in its row. */
        static final int FROM = 0, TO = 1, OVER = 2, LEFT = 3, CALL_PARTS = 4;

        int townCount;
        int handsBack;
        int x;
        int hoursGone;
        int callCount;
        /** Of links, by linkCell. */
        final int[] wires, reserves, held;
        /** Of ordered pairs, by pairCell; of counts a row of cells each. */
        final int[] stickies, counts;
        final int[] totals, loads;
        /** A row of parts for each call that goes on, as they came. */
        final int[] calls;

        Net() {
            wires = new int[CELLS];
            reserves = new int[CELLS];
            held = new int[CELLS];
            stickies = new int[CELLS];
            counts = new int[COUNTS * CELLS];
            totals = new int[COUNTS];
            loads = new int[DAY];
            calls = new int[MOST_CALLS * CALL_PARTS];
            begin(FIRST_TOWNS);
        }

        static int pairCell(int a, int b) {
            return a * MOST_TOWNS + b;
        }

        static int linkCell(int a, int b) {
            return a < b ? a * MOST_TOWNS + b : b * MOST_TOWNS + a;
        }

        /** Everything as at first, with so many towns. */
        void begin(int newTownCount) {
            townCount = newTownCount;
            handsBack = 0;
            x = 1;
            hoursGone = 0;
            callCount = 0;
            fill(wires, FIRST_WIRES);
            fill(reserves, 0);
            fill(held, 0);
            fill(counts, 0);
            fill(totals, 0);
            fill(loads, 0);
            for (int a = 0; a < MOST_TOWNS; a++) {
                for (int b = 0; b < MOST_TOWNS; b++) {
                    stickies[pairCell(a, b)] = leastOther(a, b);
                }
            }
        }

        private static int leastOther(int a, int b) {
            if (a != 0 && b != 0) {
                return 0;
            }
            return a != 1 && b != 1 ? 1 : 2;
        }

        static void fill(int[] row, int v) {
            for (int i = 0; i < row.length; i++) {
                row[i] = v;
            }
        }

        void copyFrom(Net other) {
            townCount = other.townCount;
            handsBack = other.handsBack;
            x = other.x;
            hoursGone = other.hoursGone;
            callCount = other.callCount;
            System.arraycopy(other.wires, 0, wires, 0, CELLS);
            System.arraycopy(other.reserves, 0, reserves, 0, CELLS);
            System.arraycopy(other.held, 0, held, 0, CELLS);
            System.arraycopy(other.stickies, 0, stickies, 0, CELLS);
            System.arraycopy(other.counts, 0, counts, 0, COUNTS * CELLS);
            System.arraycopy(other.totals, 0, totals, 0, COUNTS);
            System.arraycopy(other.loads, 0, loads, 0, DAY);
            System.arraycopy(other.calls, 0, calls, 0, other.callCount * CALL_PARTS);
        }

        /** Calls go on when wires become fewer, so more may be held than there are. */
        int freeWires(int link) {
            int free = wires[link] - held[link];
            return free < 0 ? 0 : free;
        }

        /** A reserve is never below 0, so it does not matter here that free wires are not either. */
        private boolean servesOver(int link) {
            return wires[link] - held[link] > reserves[link];
        }

        /** Straight (NONE), the sticky town if it serves, or REFUSED. */
        int wayNow(int a, int b) {
            if (freeWires(linkCell(a, b)) > 0) {
                return NONE;
            }
            int t = stickies[pairCell(a, b)];
            return servesOver(linkCell(a, t)) && servesOver(linkCell(t, b)) ? t : REFUSED;
        }

        boolean hasAnyWay(int a, int b) {
            boolean has = freeWires(linkCell(a, b)) > 0;
            for (int t = 0; t < townCount && !has; t++) {
                has = t != a && t != b && servesOver(linkCell(a, t)) && servesOver(linkCell(t, b));
            }
            return has;
        }

        /** Asks for a call: NONE (straight), the town it goes over, or REFUSED. */
        int ask(int a, int b, int h) {
            int cell = pairCell(a, b);
            count(ASKED, cell);
            if (callCount >= MOST_CALLS) {
                count(REFUSALS, cell);
                return REFUSED;
            }
            int way = wayNow(a, b);
            if (way == REFUSED && handsBack == 1 && servesOver(linkCell(a, stickies[cell]))) {
                count(BACKS, cell);
                redraw(a, b);
                way = wayNow(a, b);
            }
            if (way == REFUSED) {
                count(REFUSALS, cell);
                redraw(a, b);
                return REFUSED;
            }
            count(way == NONE ? STRAIGHTS : OVERS, cell);
            hold(addCall(a, b, way, h), 1);
            return way;
        }

        private void count(int what, int cell) {
            totals[what]++;
            counts[what * CELLS + cell]++;
        }

        private void advanceX() {
            x = (int) ((x * 1103515245L + 12345L) % 2147483648L);
        }

        /** Draws the sticky town of (a, b) anew from the towns that are neither. */
        private void redraw(int a, int b) {
            advanceX();
            int town = x / 65536 % (townCount - 2);
            // The drawn number counts only the other towns: step over a and b, the lesser first.
            if (town >= Math.min(a, b)) {
                town++;
            }
            if (town >= Math.max(a, b)) {
                town++;
            }
            stickies[pairCell(a, b)] = town;
        }

        /** The row of the new call. */
        private int addCall(int a, int b, int way, int h) {
            int row = callCount * CALL_PARTS;
            calls[row + FROM] = a;
            calls[row + TO] = b;
            calls[row + OVER] = way;
            calls[row + LEFT] = h;
            callCount++;
            return row;
        }

        /** The call of that row takes (1) its wires or lets them go (-1). */
        private void hold(int row, int wire) {
            int a = calls[row + FROM];
            int b = calls[row + TO];
            int t = calls[row + OVER];
            if (t == NONE) {
                held[linkCell(a, b)] += wire;
            } else {
                held[linkCell(a, t)] += wire;
                held[linkCell(t, b)] += wire;
            }
        }

        void endCall(int k) {
            int row = k * CALL_PARTS;
            int rest = (callCount - k - 1) * CALL_PARTS;
            hold(row, -1);
            System.arraycopy(calls, row + CALL_PARTS, calls, row, rest);
            callCount--;
        }

        /** How many calls ended. */
        int passHours(int n) {
            int ended = 0;
            for (int i = 0; i < n; i++) {
                ended += endHour();
                hoursGone++;
                int load = loads[Math.floorMod(hoursGone, DAY)];
                for (int j = 0; j < load; j++) {
                    askByPlan();
                }
            }
            return ended;
        }

        private int endHour() {
            int before = callCount;
            int kept = 0;
            for (int k = 0; k < before; k++) {
                int row = k * CALL_PARTS;
                calls[row + LEFT]--;
                if (calls[row + LEFT] == 0) {
                    hold(row, -1);
                } else {
                    moveCall(row, kept * CALL_PARTS);
                    kept++;
                }
            }
            callCount = kept;
            return before - kept;
        }

        private void moveCall(int row, int newRow) {
            if (newRow != row) {
                System.arraycopy(calls, row, calls, newRow, CALL_PARTS);
            }
        }

        private void askByPlan() {
            advanceX();
            int a = x / 65536 % townCount;
            int b = x / 1024 % townCount;
            if (b == a) {
                b = (b + 1) % townCount;
            }
            ask(a, b, 1 + x / 4096 % 6);
        }

        /** Does the order at that place: whether it is a call that was not refused. */
        boolean doOrder(int[] orders, int at) {
            int a = orders[at + Text.FIRST];
            int b = orders[at + Text.SECOND];
            int k = orders[at + Text.LAST];
            switch (orders[at + Text.KIND]) {
                case Text.CALL: return ask(a, b, k) != REFUSED;
                case Text.PASS: passHours(k); return false;
                case Text.WIRES: wires[linkCell(a, b)] = k; return false;
                case Text.RESERVE: reserves[linkCell(a, b)] = k; return false;
                case Text.PLAN: loads[a] = k; return false;
                default: handsBack = k; return false;
            }
        }

        int callsOverLink(int link) {
            int over = 0;
            for (int k = 0; k < callCount; k++) {
                int row = k * CALL_PARTS;
                int t = calls[row + OVER];
                if (t != NONE && (linkCell(calls[row + FROM], t) == link || linkCell(t, calls[row + TO]) == link)) {
                    over++;
                }
            }
            return over;
        }

        int wiresHeld() {
            int sum = 0;
            for (int k = 0; k < callCount; k++) {
                sum += calls[k * CALL_PARTS + OVER] == NONE ? 1 : 2;
            }
            return sum;
        }

        int refusedAt(int cell) {
            return counts[REFUSALS * CELLS + cell];
        }

        /** The cell of the first ordered pair with the most refused. */
        int mostRefusedPair() {
            int found = pairCell(0, 1);
            for (int a = 0; a < townCount; a++) {
                for (int b = 0; b < townCount; b++) {
                    if (a != b && refusedAt(pairCell(a, b)) > refusedAt(found)) {
                        found = pairCell(a, b);
                    }
                }
            }
            return found;
        }

        /** The cell of the first link with the fewest free wires. */
        int scarcestLink() {
            int found = linkCell(0, 1);
            for (int a = 0; a < townCount; a++) {
                for (int b = a + 1; b < townCount; b++) {
                    if (freeWires(linkCell(a, b)) < freeWires(found)) {
                        found = linkCell(a, b);
                    }
                }
            }
            return found;
        }

        long mixLinks(long start) {
            long h = start;
            for (int a = 0; a < townCount; a++) {
                for (int b = a + 1; b < townCount; b++) {
                    int link = linkCell(a, b);
                    h = 31 * h + wires[link];
                    h = 31 * h + reserves[link];
                    h = 31 * h + freeWires(link);
                }
            }
            return h;
        }

        long mixPairs(long start) {
            long h = start;
            for (int a = 0; a < townCount; a++) {
                for (int b = 0; b < townCount; b++) {
                    if (a != b) {
                        h = 31 * h + stickies[pairCell(a, b)];
                        h = 31 * h + refusedAt(pairCell(a, b));
                    }
                }
            }
            return h;
        }

        long mixLoadsAndCalls(long start) {
            long h = start;
            for (int hour = 0; hour < DAY; hour++) {
                h = 31 * h + loads[hour];
            }
            for (int i = 0; i < callCount * CALL_PARTS; i++) {
                h = 31 * h + calls[i];
            }
            return h;
        }
    }

    /** The bytes told, and the orders read from them. */
    private static final class Text {
        static final int MOST_BYTES = 120;
        /** The shortest order has three bytes. */
        static final int MOST_ORDERS = MOST_BYTES / 3;
        /** The kinds of orders, named by the byte they begin with; a call begins with any figure. */
        static final int CALL = '0', PASS = '+', WIRES = 'w', RESERVE = 'r', PLAN = 'p', HAND_BACK = 'x';
        /** The parts of an order in its row. */
        static final int KIND = 0, FIRST = 1, SECOND = 2, LAST = 3, ORDER_PARTS = 4;

        final int[] bytes;
        final int[] orders;
        int length;
        int orderCount;
        private int townCount;
        private int place;
        private int fault;

        Text() {
            bytes = new int[MOST_BYTES];
            orders = new int[MOST_ORDERS * ORDER_PARTS];
        }

        /** Whether there was room for it. */
        boolean append(int c) {
            if (length >= MOST_BYTES) {
                return false;
            }
            bytes[length] = c;
            length++;
            return true;
        }

        /** Reads the orders for so many towns: the place of the fault, NONE if there is none. */
        int read(int towns) {
            townCount = towns;
            place = 0;
            fault = NONE;
            orderCount = 0;
            skipBlanks();
            if (place >= length) {
                fault = length;
            }
            for (int i = 0; i < MOST_ORDERS && fault == NONE && place < length; i++) {
                readOrder(i * ORDER_PARTS);
                skipBlanks();
                orderCount++;
            }
            return fault;
        }

        /** Once there is a fault, what reads the parts of an order reads no further. */
        private void readOrder(int at) {
            int a = 0;
            int b = 0;
            int k = 0;
            int kind = readKind();
            switch (kind) {
                case CALL:
                    a = readTown(NONE);
                    b = readTown(a);
                    k = readNumber(1, Net.LONGEST_CALL);
                    break;
                case WIRES:
                case RESERVE:
                    a = readTown(NONE);
                    b = readTown(a);
                    k = readNumber(0, Net.MOST_WIRES);
                    break;
                case PLAN:
                    a = readNumber(0, Net.DAY - 1);
                    k = readNumber(0, Net.MOST_LOAD);
                    break;
                case PASS:
                    k = readNumber(0, 99);
                    break;
                case HAND_BACK:
                    k = readFigure(1);
                    break;
                default:
                    fault = place - 1;
                    break;
            }
            readEnd();
            orders[at + KIND] = kind;
            orders[at + FIRST] = a;
            orders[at + SECOND] = b;
            orders[at + LAST] = k;
        }

        /** The first figure of a call is left to be read as its town. */
        private int readKind() {
            int c = bytes[place];
            if (isFigure(c)) {
                return CALL;
            }
            place++;
            return c;
        }

        private int readTown(int other) {
            int town = readFigure(townCount - 1);
            if (fault == NONE && town == other) {
                fault = place - 1;
            }
            return town;
        }

        /** A number of one figure. */
        private int readFigure(int most) {
            if (fault != NONE) {
                return 0;
            }
            skipBlanks();
            int v = place < length ? bytes[place] - '0' : NONE;
            if (v < 0 || v > most) {
                fault = place;
                return 0;
            }
            place++;
            return v;
        }

        /** A number of one or two figures. */
        private int readNumber(int least, int most) {
            if (fault != NONE) {
                return 0;
            }
            skipBlanks();
            int start = place;
            int v = 0;
            while (place < length && isFigure(bytes[place])) {
                v = v * 10 + bytes[place] - '0';
                place++;
            }
            int figures = place - start;
            if (figures < 1 || figures > 2 || v < least || v > most) {
                fault = start;
            }
            return v;
        }

        private void readEnd() {
            if (fault != NONE) {
                return;
            }
            skipBlanks();
            if (place < length && bytes[place] == ';') {
                place++;
            } else {
                fault = place;
            }
        }

        private void skipBlanks() {
            while (place < length && bytes[place] == ' ') {
                place++;
            }
        }

        private static boolean isFigure(int c) {
            return c >= '0' && c <= '9';
        }
    }
}
