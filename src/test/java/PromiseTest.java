/** Each promise of the document with ordinary inputs, its edges and wrong inputs; answers worked out by hand. */
public final class PromiseTest {
    private static final int NONE = StickyRoutes.NONE;
    private static final int BAD = StickyRoutes.BAD;
    private static final int NO = StickyRoutes.NO;
    private static final int FULL = StickyRoutes.FULL;
    private static final int REFUSED = -5;
    private static final int LOW = Integer.MIN_VALUE;
    private static final int HIGH = Integer.MAX_VALUE;

    /** What X by 65536 (cut) is after each drawing, from X 1 on. */
    private static final int[] DRAWN = {16838, 5758, 10113, 17515, 31051, 5627, 23010, 7419, 16212, 4086};

    private final Checks checks = new Checks();
    private String promise = "";

    public static void main(String[] args) {
        new PromiseTest().all();
    }

    private void all() {
        constants();
        newObject();
        towns();
        link();
        links();
        back();
        load();
        seed();
        of();
        sticky();
        call();
        callsHandedBack();
        drawing();
        fullCalls();
        hours();
        plans();
        going();
        ends();
        allCounts();
        pair();
        worst();
        burden();
        would();
        best();
        choked();
        type();
        clear();
        doesCalls();
        doesOrders();
        doesFaults();
        undo();
        told();
        digest();
        refusals();
        checks.end("PromiseTest");
    }

    private void due(String what, long got, long want) {
        checks.due(promise + ": " + what, got, want);
    }

    /** The call was refused as told, and nothing but how often changed. */
    private void bad(String what, StickyRoutes x, int times, long got) {
        due(what, got, BAD);
        due(what + ", times", x.told(0), times);
    }

    private static StickyRoutes typed(StickyRoutes x, String text) {
        x.clear();
        for (int i = 0; i < text.length(); i++) {
            x.type(text.charAt(i));
        }
        return x;
    }

    private static int done(StickyRoutes x, String text) {
        return typed(x, text).does();
    }

    /** Three towns, no wires between 0 and 1, so that calls of these go over 2. */
    private static StickyRoutes triangle() {
        StickyRoutes x = new StickyRoutes();
        x.towns(3);
        x.link(0, 1, 0, 0);
        return x;
    }

    private void constants() {
        promise = "constants";
        due("NONE", StickyRoutes.NONE, -1);
        due("BAD", StickyRoutes.BAD, -2);
        due("NO", StickyRoutes.NO, -3);
        due("FULL", StickyRoutes.FULL, -4);
    }

    private void newObject() {
        promise = "1";
        isNew(new StickyRoutes(), 4);
        StickyRoutes x = new StickyRoutes();
        due("states", x.told(9), 0);
        due("text", x.told(3), 0);
        due("bad", x.told(0), 0);
        due("no", x.told(1), 0);
        due("full", x.told(2), 0);
        due("undo", x.undo(), NO);
        StickyRoutes y = new StickyRoutes();
        due("another's no", y.told(1), 0);
    }

    private void isNew(StickyRoutes x, int n) {
        due("n", x.told(4), n);
        due("back", x.told(5), 0);
        due("going", x.told(6), 0);
        due("hours", x.told(7), 0);
        due("x", x.told(8), 1);
        for (int a = 0; a < n; a++) {
            for (int b = 0; b < n; b++) {
                if (a == b) {
                    continue;
                }
                due("wires", x.of(a, b, 0), 5);
                due("reserve", x.of(a, b, 1), 0);
                due("free", x.of(a, b, 2), 5);
                due("over", x.of(a, b, 3), 0);
                int least = 0;
                while (least == a || least == b) {
                    least++;
                }
                due("sticky " + a + b, x.sticky(a, b), least);
                for (int what = 0; what < 5; what++) {
                    due("pair", x.pair(a, b, what), 0);
                }
            }
        }
        for (int what = 0; what < 5; what++) {
            due("all " + what, x.all(what), 0);
        }
    }

    private void towns() {
        promise = "2";
        StickyRoutes x = new StickyRoutes();
        due("towns 6", x.towns(6), 4);
        isNew(x, 6);
        due("towns 3", x.towns(3), 6);
        isNew(x, 3);
        due("town 3 is none", x.sticky(0, 3), BAD);
        due("towns 5", x.towns(5), 3);
        due("towns 5 again", x.towns(5), 5);
        due("states", x.told(9), 4);

        StickyRoutes y = new StickyRoutes();
        typed(y, "abc");
        y.link(0, 1, 0, 0);
        y.links(1, 9);
        y.back(1);
        y.load(1, 9);
        y.seed(5);
        y.hours(2);
        y.call(0, 1, 4);
        y.ends(99);
        y.call(2, 2, 2);
        due("towns 4", y.towns(4), 4);
        isNew(y, 4);
        due("text stays", y.told(3), 3);
        due("bad stays", y.told(0), 1);
        due("no stays", y.told(1), 1);
        due("states stay", y.told(9), 5);
        y.hours(3);
        due("loads are as at first", y.all(0), 0);
        y.undo();
        y.undo();
        due("undo finds what was", y.told(7), 2);
        due("undo finds the loads", y.all(0), 10);

        StickyRoutes z = new StickyRoutes();
        int times = 0;
        for (int v : new int[] {2, 7, 0, -1, LOW, HIGH}) {
            bad("towns " + v, z, ++times, z.towns(v));
        }
        due("no state", z.told(9), 0);
    }

    private void link() {
        promise = "3";
        StickyRoutes x = new StickyRoutes();
        due("wires", x.link(1, 3, 0, 30), 5);
        due("wires other way", x.link(3, 1, 0, 0), 30);
        due("reserve", x.link(3, 1, 1, 30), 0);
        due("reserve other way", x.link(1, 3, 1, 7), 30);
        due("wires are", x.of(1, 3, 0), 0);
        due("reserve is", x.of(3, 1, 1), 7);
        due("other link's wires", x.of(1, 2, 0), 5);
        due("other link's reserve", x.of(0, 3, 1), 0);
        due("states", x.told(9), 4);
        int times = 0;
        int[][] wrong = {{1, 1, 0, 1}, {-1, 1, 0, 1}, {4, 1, 0, 1}, {1, -1, 0, 1}, {1, 4, 0, 1}, {0, 1, -1, 1}, {0, 1, 2, 1},
            {0, 1, 0, -1}, {0, 1, 0, 31}, {0, 1, 1, -1}, {0, 1, 1, 31}, {LOW, 1, 0, 1}, {1, HIGH, 0, 1}};
        for (int[] w : wrong) {
            bad("link", x, ++times, x.link(w[0], w[1], w[2], w[3]));
        }
        due("states stay", x.told(9), 4);

        x.call(0, 1, 9);
        x.call(0, 1, 9);
        due("fewer wires", x.link(0, 1, 0, 1), 5);
        due("calls go on", x.told(6), 2);
        due("free is not below 0", x.of(0, 1, 2), 0);
        x.link(0, 1, 0, 3);
        due("held ones count", x.of(0, 1, 2), 1);
    }

    private void links() {
        promise = "4";
        int[] linkCounts = {3, 6, 10, 15};
        for (int n = 3; n <= 6; n++) {
            StickyRoutes x = new StickyRoutes();
            x.towns(n);
            due("links of " + n, x.links(0, 30), linkCounts[n - 3]);
            due("reserves of " + n, x.links(1, 4), linkCounts[n - 3]);
            for (int a = 0; a < n; a++) {
                for (int b = 0; b < n; b++) {
                    if (a != b) {
                        due("wires", x.of(a, b, 0), 30);
                        due("reserve", x.of(a, b, 1), 4);
                    }
                }
            }
            due("states", x.told(9), 3);
        }
        StickyRoutes x = new StickyRoutes();
        due("0 wires", x.links(0, 0), 6);
        due("30 reserve", x.links(1, 30), 6);
        int times = 0;
        int[][] wrong = {{-1, 0}, {2, 0}, {0, -1}, {0, 31}, {1, -1}, {1, 31}, {HIGH, LOW}};
        for (int[] w : wrong) {
            bad("links", x, ++times, x.links(w[0], w[1]));
        }
        due("wires stay", x.of(0, 1, 0), 0);
        due("states stay", x.told(9), 2);
    }

    private void back() {
        promise = "5";
        StickyRoutes x = new StickyRoutes();
        due("on", x.back(1), 0);
        due("on again", x.back(1), 1);
        due("told on", x.told(5), 1);
        due("off", x.back(0), 1);
        due("told off", x.told(5), 0);
        due("states", x.told(9), 3);
        bad("back 2", x, 1, x.back(2));
        bad("back -1", x, 2, x.back(-1));
        due("states stay", x.told(9), 3);
    }

    private void load() {
        promise = "6";
        StickyRoutes x = new StickyRoutes();
        due("0 to 9", x.load(0, 9), 0);
        due("23 to 1", x.load(23, 1), 0);
        due("0 was", x.load(0, 0), 9);
        due("23 was", x.load(23, 2), 1);
        due("states", x.told(9), 4);
        int times = 0;
        int[][] wrong = {{-1, 0}, {24, 0}, {0, -1}, {0, 10}, {LOW, 1}, {1, HIGH}};
        for (int[] w : wrong) {
            bad("load", x, ++times, x.load(w[0], w[1]));
        }
        due("states stay", x.told(9), 4);
    }

    private void seed() {
        promise = "7";
        StickyRoutes x = new StickyRoutes();
        due("seed 0", x.seed(0), 1);
        due("x is 0", x.told(8), 0);
        due("seed 999999", x.seed(999999), 1);
        due("x is 999999", x.told(8), 999999);
        due("states", x.told(9), 2);
        bad("seed -1", x, 1, x.seed(-1));
        bad("seed 1000000", x, 2, x.seed(1000000));
        due("x stays", x.told(8), 999999);
        due("states stay", x.told(9), 2);
    }

    private void of() {
        promise = "8";
        StickyRoutes x = triangle();
        x.link(0, 2, 0, 4);
        x.link(0, 2, 1, 2);
        x.call(0, 2, 3);
        due("over 2", x.call(1, 0, 3), 2);
        due("wires", x.of(2, 0, 0), 4);
        due("reserve", x.of(2, 0, 1), 2);
        due("free", x.of(2, 0, 2), 2);
        due("not straight", x.of(2, 0, 3), 1);
        due("not straight, first", x.of(1, 2, 3), 1);
        due("free, first", x.of(1, 2, 2), 4);
        due("none over 0 and 1", x.of(0, 1, 3), 0);
        int[][] wrong = {{0, 0, 0}, {-1, 0, 0}, {3, 0, 0}, {0, 3, 0}, {0, -1, 0}, {0, 1, -1}, {0, 1, 4}, {HIGH, LOW, 0}};
        int times = 0;
        for (int[] w : wrong) {
            bad("of", x, ++times, x.of(w[0], w[1], w[2]));
        }
    }

    private void sticky() {
        promise = "9";
        StickyRoutes x = new StickyRoutes();
        x.links(0, 0);
        due("at first", x.sticky(2, 3), 0);
        due("refused", x.call(2, 3, 1), REFUSED);
        due("drawn from 0, 1", x.sticky(2, 3), DRAWN[0] % 2);
        x.call(2, 3, 1);
        x.call(2, 3, 1);
        due("drawn a third time", x.sticky(2, 3), DRAWN[2] % 2);
        due("the other way stays", x.sticky(3, 2), 0);
        int[][] wrong = {{1, 1}, {-1, 0}, {0, -1}, {4, 0}, {0, 4}, {HIGH, 0}, {0, LOW}};
        int times = 0;
        for (int[] w : wrong) {
            bad("sticky", x, ++times, x.sticky(w[0], w[1]));
        }
    }

    private void call() {
        promise = "10";
        StickyRoutes x = new StickyRoutes();
        x.links(1, 30);
        for (int i = 0; i < 5; i++) {
            due("straight, reserve or not", x.call(0, 1, 24), NONE);
        }
        due("reserve keeps others off", x.call(0, 1, 1), REFUSED);
        x.links(1, 4);
        due("drawn was 2", x.sticky(0, 1), 2 + DRAWN[0] % 2);
        due("more than the reserve", x.call(0, 1, 1), 2);
        due("not more than the reserve", x.call(0, 1, 1), REFUSED);
        x.links(1, 0);
        due("states", x.told(9), 5);
        due("straight elsewhere", x.call(3, 2, 1), NONE);
        int[][] wrong = {{1, 1, 1}, {-1, 0, 1}, {4, 0, 1}, {0, -1, 1}, {0, 4, 1}, {0, 1, 0}, {0, 1, 25}, {0, 1, -1},
            {HIGH, 0, 1}, {0, 1, LOW}};
        int times = 0;
        for (int[] w : wrong) {
            bad("call", x, ++times, x.call(w[0], w[1], w[2]));
        }
        due("asked", x.all(0), 9);

        StickyRoutes y = triangle();
        y.link(0, 2, 1, 4);
        y.link(1, 2, 1, 5);
        due("first has, second has not", y.call(0, 1, 1), REFUSED);
        y.link(0, 2, 1, 5);
        y.link(1, 2, 1, 4);
        due("second has, first has not", y.call(0, 1, 1), REFUSED);
        y.link(0, 2, 1, 4);
        due("both have", y.call(0, 1, 1), 2);
        due("a refused one leaves a state", y.told(9), 5);
    }

    private void callsHandedBack() {
        promise = "10, back";
        // Of 0 to 1 by 2: the link of 2 and 1 has no wire; 3 would serve. Drawn: 16838 is even (2), 5758 (2), 10113 odd (3).
        StickyRoutes x = new StickyRoutes();
        x.link(0, 1, 0, 0);
        x.link(2, 1, 0, 0);
        due("without back", x.call(0, 1, 1), REFUSED);
        x.back(1);
        due("handed back, drawn 2, fails, drawn 3", x.call(0, 1, 1), REFUSED);
        due("asked", x.all(0), 2);
        due("handed back once", x.all(3), 1);
        due("refused", x.all(4), 2);
        due("sticky is 3", x.sticky(0, 1), 3);
        due("3 serves", x.call(0, 1, 1), 3);
        x.seed(1);
        x.call(1, 0, 1);
        due("the first has not: no handing back", x.pair(1, 0, 3), 0);
        due("refused at once", x.pair(1, 0, 4), 1);
        due("drawn once", x.told(8), 1103527590);

        StickyRoutes y = new StickyRoutes();
        y.links(0, 0);
        y.call(2, 3, 1);
        y.call(2, 3, 1);
        y.links(0, 5);
        y.link(0, 1, 0, 0);
        y.link(2, 1, 0, 0);
        y.back(1);
        due("two drawn before", y.told(8) / 65536 % 32768, DRAWN[1]);
        due("handed back, goes over 3", y.call(0, 1, 1), 3);
        due("not refused", y.pair(0, 1, 4), 0);
        due("over", y.pair(0, 1, 2), 1);
        due("handed back", y.pair(0, 1, 3), 1);
        due("kept", y.sticky(0, 1), 3);
        due("drawn once", y.told(8) / 65536 % 32768, DRAWN[2]);
    }

    private void drawing() {
        promise = "terms, drawing";
        for (int n = 3; n <= 6; n++) {
            StickyRoutes x = new StickyRoutes();
            x.towns(n);
            x.links(0, 0);
            int drawn = 0;
            for (int a = 0; a < n; a++) {
                for (int b = n - 1; b >= 0 && drawn < DRAWN.length; b--) {
                    if (a == b) {
                        continue;
                    }
                    due("refused", x.call(a, b, 1), REFUSED);
                    int left = DRAWN[drawn++] % (n - 2);
                    int t = 0;
                    while (t == a || t == b || left-- > 0) {
                        t++;
                    }
                    due("drawn of " + n + " for " + a + b, x.sticky(a, b), t);
                }
            }
        }
        StickyRoutes x = new StickyRoutes();
        x.links(0, 0);
        x.seed(999999);
        x.call(0, 1, 1);
        due("x from 999999", x.told(8), (999999L * 1103515245L + 12345L) % 2147483648L);
    }

    /** 80 calls of towns 0 to 2 that go on. */
    private StickyRoutes eighty() {
        StickyRoutes x = new StickyRoutes();
        x.towns(3);
        x.links(0, 30);
        for (int i = 0; i < 80; i++) {
            due("straight", x.call(i % 3, (i + 1) % 3, 24), NONE);
        }
        return x;
    }

    private void fullCalls() {
        promise = "80 calls";
        StickyRoutes x = eighty();
        int states = x.told(9);
        due("80 go on", x.told(6), 80);
        due("the next", x.call(0, 1, 1), FULL);
        due("full, times", x.told(2), 1);
        due("a number comes first", x.call(0, 1, 25), BAD);
        due("not asked", x.all(0), 80);
        due("states stay", x.told(9), states);
        due("it is told in a text", done(x, "0 1 1;"), 0);
        due("asked", x.pair(0, 1, 0), 28);
        due("refused", x.pair(0, 1, 4), 1);
        due("not drawn", x.told(8), 1);
        due("full, times, stays", x.told(2), 1);
        due("a state more can be", x.told(9), 5);
        x.load(1, 9);
        due("none ends", x.hours(1), 0);
        due("nine refused", x.all(4), 10);
        due("nine asked", x.all(0), 90);
        long v = 1;
        for (int i = 0; i < 9; i++) {
            v = (v * 1103515245L + 12345L) % 2147483648L;
        }
        due("x by the plan alone", x.told(8), v);
        x.ends(79);
        due("one may come", x.call(0, 1, 1), NONE);
    }

    private void hours() {
        promise = "11";
        StickyRoutes x = new StickyRoutes();
        x.call(0, 1, 1);
        x.call(0, 1, 2);
        x.call(1, 2, 1);
        x.call(0, 1, 3);
        due("one hour", x.hours(1), 2);
        due("left go on", x.told(6), 2);
        due("wire is let go", x.of(0, 1, 2), 3);
        due("first is", x.going(0, 3), 1);
        due("second is", x.going(1, 3), 2);
        due("48 hours", x.hours(48), 2);
        due("hours gone", x.told(7), 49);
        due("all free", x.of(0, 1, 2), 5);
        due("states", x.told(9), 5);
        bad("hours 0", x, 1, x.hours(0));
        bad("hours 49", x, 2, x.hours(49));
        bad("hours -1", x, 3, x.hours(-1));
        due("hours gone stay", x.told(7), 49);

        StickyRoutes y = triangle();
        y.call(0, 1, 24);
        due("23 hours", y.hours(23), 0);
        due("held yet", y.of(0, 2, 3), 1);
        due("the 24th", y.hours(1), 1);
        due("both let go", y.of(0, 2, 2) + y.of(1, 2, 2), 10);
    }

    private void plans() {
        promise = "11, plans";
        StickyRoutes x = new StickyRoutes();
        x.load(0, 1);
        x.hours(23);
        due("hour 0 is not begun again", x.all(0), 0);
        x.hours(1);
        due("hour 0 of the next day", x.all(0), 1);
        x.load(1, 2);
        due("it is one call of an hour or more", x.told(6), 1);
        x.hours(24);
        due("1 and 0", x.all(0), 4);

        // Each X tells a call: 16838 by 4 is 2; 1103527590 by 1024 is 1077663, by 4 is 3; by 4096 is 269415, by 6 is 3.
        StickyRoutes y = new StickyRoutes();
        y.load(1, 1);
        y.hours(1);
        due("from", y.going(0, 0), 2);
        due("to", y.going(0, 1), 3);
        due("straight", y.going(0, 2), NONE);
        due("hours", y.going(0, 3), 4);
        due("x", y.told(8), 1103527590);

        StickyRoutes z = new StickyRoutes();
        z.links(0, 30);
        for (int hour = 0; hour < 24; hour++) {
            z.load(hour, 1);
        }
        long v = 1;
        for (int i = 0; i < 60; i++) {
            v = (v * 1103515245L + 12345L) % 2147483648L;
            z.hours(1);
            int last = z.told(6) - 1;
            int a = (int) (v / 65536 % 4);
            int b = (int) (v / 1024 % 4);
            due("from", z.going(last, 0), a);
            due("to", z.going(last, 1), a == b ? (b + 1) % 4 : b);
            due("hours", z.going(last, 3), 1 + v / 4096 % 6);
        }

        // A refused one draws on from the X of the plan.
        StickyRoutes w = new StickyRoutes();
        w.links(0, 0);
        w.load(1, 2);
        w.hours(1);
        due("four times x", w.told(8) / 65536 % 32768, DRAWN[3]);
        due("refused", w.all(4), 2);
        due("drawn behind the plan's", w.sticky(2, 3), DRAWN[1] % 2);

        // What ends with the hour is free for what begins.
        StickyRoutes u = new StickyRoutes();
        u.links(0, 0);
        u.link(2, 3, 0, 1);
        u.call(2, 3, 1);
        u.load(1, 1);
        due("one ends", u.hours(1), 1);
        due("one begins", u.all(1), 2);
    }

    private void going() {
        promise = "12";
        StickyRoutes x = triangle();
        x.call(1, 0, 7);
        x.call(2, 0, 1);
        x.call(2, 1, 9);
        int[][] want = {{1, 0, 2, 7}, {2, 0, NONE, 1}, {2, 1, NONE, 9}};
        for (int k = 0; k < 3; k++) {
            for (int what = 0; what < 4; what++) {
                due("going " + k + what, x.going(k, what), want[k][what]);
            }
        }
        x.hours(1);
        due("the rest as they came", x.going(1, 0), 2);
        due("the rest as they came", x.going(1, 1), 1);
        due("hours yet", x.going(0, 3), 6);
        for (int what = 0; what < 4; what++) {
            due("not so many", x.going(2, what), NONE);
            due("never so many", x.going(80, what), NONE);
            due("never so many", x.going(HIGH, what), NONE);
        }
        bad("k", x, 1, x.going(-1, 0));
        bad("k", x, 2, x.going(LOW, 0));
        bad("what", x, 3, x.going(0, 4));
        bad("what", x, 4, x.going(0, -1));
        bad("what, none there", x, 5, x.going(9, 4));
    }

    private void ends() {
        promise = "13";
        StickyRoutes x = triangle();
        x.call(0, 2, 3);
        x.call(0, 1, 4);
        x.call(1, 2, 5);
        due("the middle one", x.ends(1), 2);
        due("lets go of one", x.of(0, 2, 2), 4);
        due("lets go of the other", x.of(1, 2, 2), 4);
        due("the last is second", x.going(1, 3), 5);
        due("states", x.told(9), 5);
        due("not so many", x.ends(2), NO);
        due("not so many", x.ends(HIGH), NO);
        due("no, times", x.told(1), 2);
        bad("k", x, 1, x.ends(-1));
        bad("k", x, 2, x.ends(LOW));
        due("the last", x.ends(1), 1);
        due("the first", x.ends(0), 0);
        due("none", x.ends(0), NO);
        due("all free", x.of(0, 2, 2) + x.of(1, 2, 2), 10);
        due("asked stays", x.all(0), 3);
        x.undo();
        due("one again", x.told(6), 1);
        due("holds again", x.of(0, 2, 2), 4);
    }

    /** Asked 7: two straight, one over, one handed back and over, three refused, two of them handed back. */
    private static StickyRoutes mixed() {
        StickyRoutes x = new StickyRoutes();
        x.links(0, 1);
        x.call(0, 1, 9);
        x.call(0, 1, 9);
        x.back(1);
        x.call(3, 1, 9);
        x.call(0, 1, 9);
        x.call(3, 1, 9);
        return x;
    }

    private void allCounts() {
        promise = "14";
        StickyRoutes x = mixed();
        due("asked", x.all(0), 5);
        due("straight", x.all(1), 2);
        due("over", x.all(2), 1);
        due("back", x.all(3), 1);
        due("refused", x.all(4), 2);
        bad("all", x, 1, x.all(5));
        bad("all", x, 2, x.all(-1));
        bad("all", x, 3, x.all(LOW));
    }

    private void pair() {
        promise = "15";
        StickyRoutes x = mixed();
        int[][] want = {{0, 1, 3, 1, 1, 0, 1}, {3, 1, 2, 1, 0, 1, 1}, {1, 0, 0, 0, 0, 0, 0}, {1, 3, 0, 0, 0, 0, 0}};
        for (int[] w : want) {
            for (int what = 0; what < 5; what++) {
                due("pair " + w[0] + w[1] + what, x.pair(w[0], w[1], what), w[2 + what]);
            }
        }
        int[][] wrong = {{1, 1, 0}, {-1, 0, 0}, {4, 0, 0}, {0, 4, 0}, {0, -1, 0}, {0, 1, 5}, {0, 1, -1}};
        int times = 0;
        for (int[] w : wrong) {
            bad("pair", x, ++times, x.pair(w[0], w[1], w[2]));
        }
    }

    private void worst() {
        promise = "16";
        StickyRoutes x = new StickyRoutes();
        due("pair of none", x.worst(0), 1);
        due("refused none", x.worst(1), 0);
        due("link of like ones", x.worst(2), 1);
        due("free of it", x.worst(3), 5);
        x.links(0, 2);
        x.link(1, 3, 0, 1);
        due("link", x.worst(2), 13);
        due("free", x.worst(3), 1);
        x.link(1, 2, 0, 1);
        due("the first of like ones", x.worst(2), 12);
        x.call(3, 2, 9);
        x.call(3, 2, 9);
        due("fewest by calls", x.worst(2), 23);
        due("fewest by calls", x.worst(3), 0);
        x.links(0, 0);
        x.call(3, 2, 1);
        due("last pair", x.worst(0), 32);
        x.call(2, 3, 1);
        due("the first of like pairs", x.worst(0), 23);
        x.call(3, 2, 1);
        due("most", x.worst(0), 32);
        due("how many", x.worst(1), 2);
        bad("worst", x, 1, x.worst(4));
        bad("worst", x, 2, x.worst(-1));
        bad("worst", x, 3, x.worst(HIGH));
    }

    private void burden() {
        promise = "17";
        StickyRoutes x = triangle();
        due("none", x.burden(), 0);
        x.call(0, 2, 1);
        due("straight", x.burden(), 1000);
        x.call(0, 1, 2);
        due("one of two over", x.burden(), 1500);
        x.call(1, 2, 1);
        due("one of three over, cut", x.burden(), 1333);
        x.hours(1);
        due("over alone", x.burden(), 2000);
        x.call(1, 0, 2);
        x.call(1, 2, 2);
        due("two of three over, cut", x.burden(), 1666);
    }

    private void would() {
        promise = "18";
        StickyRoutes x = new StickyRoutes();
        due("no plans", x.would(48, 0), 0);
        x.links(0, 0);
        for (int hour = 0; hour < 24; hour++) {
            x.load(hour, 1);
        }
        x.link(2, 3, 0, 30);
        long before = x.digest();
        due("an hour: 2 to 3 straight", x.would(1, 30), 0);
        int refused = x.would(48, 0);
        due("all stays", x.digest(), before);
        x.hours(48);
        due("as it came", x.all(4), refused);

        // 2 to 3 over 0 with one wire each: reserve 0 lets it, reserve 1 does not; the reserves that are do not count.
        StickyRoutes y = new StickyRoutes();
        y.links(0, 1);
        y.link(2, 3, 0, 0);
        y.links(1, 30);
        y.load(1, 1);
        due("reserve 0", y.would(1, 0), 0);
        due("reserve 1", y.would(1, 1), 1);
        due("reserve 30", y.would(1, 30), 1);
        due("reserves stay", y.of(0, 1, 1), 30);
        y.hours(1);
        due("as it was", y.all(4), 1);
        due("what was refused before does not count", y.would(23, 0), 0);
        int states = y.told(9);
        int[][] wrong = {{0, 0}, {49, 0}, {1, -1}, {1, 31}, {LOW, HIGH}};
        int times = 0;
        for (int[] w : wrong) {
            bad("would", y, ++times, y.would(w[0], w[1]));
        }
        due("no state", y.told(9), states);

        StickyRoutes z = eighty();
        z.load(1, 9);
        due("80 going on", z.would(1, 0), 9);
    }

    private void best() {
        promise = "19";
        StickyRoutes x = new StickyRoutes();
        due("like ones: the least", x.best(48, 0), 0);
        due("none", x.best(48, 1), 0);
        x.links(0, 0);
        x.load(1, 9);
        due("all refused: the least", x.best(1, 0), 0);
        due("all refused", x.best(1, 1), 9);

        // Two and more reserved wires serve better here: searched and checked against would().
        boolean some = false;
        for (int seed = 1; seed < 40 && !some; seed++) {
            StickyRoutes y = new StickyRoutes();
            y.towns(5);
            y.links(0, 3);
            y.seed(seed);
            for (int hour = 0; hour < 24; hour++) {
                y.load(hour, 9);
            }
            int fewest = y.would(6, 0);
            int at = 0;
            for (int r = 1; r <= 30; r++) {
                int refused = y.would(6, r);
                if (refused < fewest) {
                    fewest = refused;
                    at = r;
                }
            }
            long before = y.digest();
            due("which", y.best(6, 0), at);
            due("how many", y.best(6, 1), fewest);
            due("all stays", y.digest(), before);
            some = at > 1;
        }
        due("one was above 1", some ? 1 : 0, 1);
        int[][] wrong = {{0, 0}, {49, 0}, {1, -1}, {1, 2}};
        int times = 0;
        for (int[] w : wrong) {
            bad("best", x, ++times, x.best(w[0], w[1]));
        }
    }

    private void choked() {
        promise = "20";
        StickyRoutes x = new StickyRoutes();
        due("none", x.choked(0), 0);
        due("none", x.choked(1), 0);
        x.link(0, 1, 0, 0);
        x.link(1, 2, 0, 0);
        // (0, 1) and (1, 0) stick to 2, (1, 2) and (2, 1) to 0: these fail; over 3 all would go.
        due("as they are", x.choked(0), 4);
        due("each other one tried", x.choked(1), 0);
        x.back(1);
        due("without handing back", x.choked(0), 4);
        x.link(1, 3, 1, 5);
        due("reserves", x.choked(1), 4);
        x.link(1, 3, 0, 0);
        due("1 is alone", x.choked(0), 6);
        due("1 is alone", x.choked(1), 6);
        x.links(0, 0);
        due("all", x.choked(0), 12);
        due("all", x.choked(1), 12);
        long before = x.digest();
        x.choked(0);
        due("nothing is drawn", x.digest(), before);
        bad("choked", x, 1, x.choked(2));
        bad("choked", x, 2, x.choked(-1));
    }

    private void type() {
        promise = "21";
        StickyRoutes x = new StickyRoutes();
        due("0", x.type(0), 1);
        due("127", x.type(127), 2);
        bad("128", x, 1, x.type(128));
        bad("-1", x, 2, x.type(-1));
        for (int i = 3; i <= 120; i++) {
            due("byte", x.type(48), i);
        }
        due("the 121st", x.type(48), FULL);
        due("full, times", x.told(2), 1);
        bad("a number comes first", x, 3, x.type(128));
        due("120 stay", x.told(3), 120);
        due("no state", x.told(9), 0);
    }

    private void clear() {
        promise = "22";
        StickyRoutes x = new StickyRoutes();
        due("none", x.clear(), 0);
        typed(x, "+1;");
        due("three", x.clear(), 3);
        due("none again", x.clear(), 0);
        due("no state", x.told(9), 0);
        due("empty", x.does(), -10);
        due("typed anew", x.type('+'), 1);
        due("not what was", x.does(), -11);
    }

    private void doesCalls() {
        promise = "23, calls";
        StickyRoutes x = new StickyRoutes();
        due("three", done(x, "011; 1 2 24 ;23 05;"), 3);
        due("hours of two figures", x.going(1, 3), 24);
        due("a leading 0", x.going(2, 3), 5);
        due("one state", x.told(9), 1);
        due("the text stays", x.told(3), 19);
        due("once more", x.does(), 3);
        due("six", x.told(6), 6);
        x.undo();
        due("three again", x.told(6), 3);
        due("the text stays", x.told(3), 19);
        due("some refused", done(x, "w010;w020;w030;019;102;235;"), 1);
        due("refused ones count", x.all(4), 2);
        due("none goes", done(x, "019;"), 0);
        due("a state all the same", x.told(9), 3);
        due("over counts", done(new StickyRoutes(), "w010;w021;w121;011;011;"), 1);
    }

    private void doesOrders() {
        promise = "23, orders";
        StickyRoutes x = new StickyRoutes();
        due("hours", done(x, "+99;+ 9 ;+00;+0;+09;"), 0);
        due("hours gone", x.told(7), 117);
        due("one state", x.told(9), 1);
        done(x, "w 0 1 30;w 2 3 0;w309;w1 2 07;");
        due("wires", x.of(0, 1, 0), 30);
        due("wires", x.of(2, 3, 0), 0);
        due("wires", x.of(0, 3, 0), 9);
        due("wires", x.of(1, 2, 0), 7);
        done(x, "r 0 1 30;r 2 3 0;r309;");
        due("reserve", x.of(0, 1, 1), 30);
        due("reserve", x.of(0, 3, 1), 9);
        due("wires stay", x.of(0, 1, 0), 30);
        done(x, "x1;");
        due("back on", x.told(5), 1);
        done(x, " x 0 ; ");
        due("back off", x.told(5), 0);
        done(x, "p 23 9;p0 1;p07 08;");
        due("load 23", x.load(23, 0), 9);
        due("load 0", x.load(0, 0), 1);
        due("load 7", x.load(7, 0), 8);

        StickyRoutes y = new StickyRoutes();
        due("in their order", done(y, "p1 2;+1;014;+3;"), 1);
        due("asked", y.all(0), 3);
        due("hours gone", y.told(7), 4);
        due("the told one is third", 10 * y.going(2, 0) + y.going(2, 1), 1);
        due("it has an hour yet", y.going(2, 3), 1);
        due("all three go on", y.told(6), 3);
        y.towns(6);
        due("towns by n", done(y, "451;"), 1);
        due("40 orders", done(y, repeat("+1;", 40)), 0);
        due("40 hours", y.told(7), 40);
        y.links(0, 30);
        due("30 calls", done(y, repeat("012;", 30)), 30);

        StickyRoutes z = eighty();
        due("one finds room", done(z, "0 1 1;+24;0 1 1;"), 1);
        due("refused", z.all(4), 1);
    }

    private static String repeat(String part, int times) {
        StringBuilder s = new StringBuilder();
        for (int i = 0; i < times; i++) {
            s.append(part);
        }
        return s.toString();
    }

    private void doesFaults() {
        promise = "23, faults";
        Object[][] faults = {
            {"", 0}, {" ", 1}, {"   ", 3}, {";", 0}, {"+1;;", 3}, {" ;", 1},
            {"0", 1}, {"01", 2}, {"011", 3}, {"0 1 1 ", 6}, {"+", 1}, {"+1", 2}, {"+ ", 2}, {"w", 1}, {"w01", 3}, {"w013", 4},
            {"p", 1}, {"p1", 2}, {"p1 ", 3}, {"p1 1", 4}, {"x", 1}, {"x1", 2}, {"r 0 ", 4},
            {"c011;", 0}, {"\u0000", 0}, {"W011;", 0}, {"a", 0}, {"-1;", 0}, {"\t+1;", 0}, {"/11;", 0}, {":11;", 0},
            {"411;", 0}, {"911;", 0}, {"041;", 1}, {"001;", 1}, {"111;", 1}, {"3 3 1;", 2}, {"0;", 1}, {"01;", 2}, {"0a1;", 1},
            {"010;", 2}, {"0100;", 2}, {"0125;", 2}, {"01 25;", 3}, {"01001;", 2}, {"01101;", 2}, {"011 1;", 4}, {"011a;", 3},
            {"01a;", 2}, {"01 0", 3}, {"01 99", 3},
            {"+;", 1}, {"+100;", 1}, {"+000;", 1}, {"+1 1;", 3}, {"+ 123456789012;", 2}, {"+4294967297;", 1}, {"+a;", 1}, {"+-1;", 1},
            {"+100", 1}, {"++1;", 1},
            {"w0131;", 3}, {"w01 99;", 4}, {"w01030;", 3}, {"w041;", 2}, {"w401;", 1}, {"w001;", 2}, {"w0 0 1;", 3}, {"w01;", 3},
            {"w01 3 0;", 6}, {"r0131;", 3}, {"r221;", 2}, {"r01 300;", 4}, {"r;", 1}, {"r0;", 2},
            {"p24 1;", 1}, {"p 99 1;", 2}, {"p231;", 1}, {"p23;", 3}, {"p1 10;", 3}, {"p1 19;", 3}, {"p1 009;", 3}, {"p1 1 1;", 5},
            {"p;", 1}, {"p23 ;", 4}, {"p000 1;", 1},
            {"x2;", 1}, {"x01;", 2}, {"x 9;", 2}, {"x;", 1}, {"x1 1;", 3}, {"xx;", 1},
            {"011;+5;x1;q", 10}, {"011; 011; 0", 11}, {"011;+100;", 5},
        };
        for (Object[] f : faults) {
            String text = (String) f[0];
            StickyRoutes x = typed(new StickyRoutes(), text);
            long before = x.digest();
            due("'" + text + "'", x.does(), -10 - (Integer) f[1]);
            due("'" + text + "' does nothing", x.digest(), before);
        }
        StickyRoutes y = new StickyRoutes();
        y.towns(6);
        due("town 5", done(y, "501;"), 1);
        due("town 6", done(y, "061;"), -11);
        y.towns(3);
        due("town 3", done(y, "031;"), -11);
        due("120 bytes, too early", done(y, repeat("+10;", 29) + "+100"), -10 - 117);
        due("120 bytes, too early", done(y, repeat("+10;", 29) + "+10 "), -10 - 120);
    }

    private void undo() {
        promise = "24";
        StickyRoutes x = new StickyRoutes();
        due("none", x.undo(), NO);
        due("no, times", x.told(1), 1);
        long[] digests = new long[8];
        for (int i = 0; i < 8; i++) {
            digests[i] = viewOf(x);
            change(x, i);
        }
        due("five at most", x.told(9), 5);
        for (int i = 4; i >= 0; i--) {
            due("undo", x.undo(), i);
            due("as it was before " + (i + 3), viewOf(x), digests[i + 3]);
        }
        due("none left", x.undo(), NO);
        due("no, times", x.told(1), 2);
        due("nothing changed", viewOf(x), digests[3]);

        StickyRoutes y = new StickyRoutes();
        y.call(0, 1, 9);
        y.type('a');
        y.call(0, 0, 0);
        due("one can be", y.told(9), 1);
        due("undo", y.undo(), 0);
        due("text stays", y.told(3), 1);
        due("bad stays", y.told(0), 1);
        y.seed(3);
        due("another way", y.told(9), 1);
        y.undo();
        due("x", y.told(8), 1);
    }

    private static void change(StickyRoutes x, int i) {
        switch (i) {
            case 0: x.towns(5); break;
            case 1: x.links(0, 0); break;
            case 2: x.link(0, 4, 0, 2); break;
            case 3: x.load(1, 9); break;
            case 4: x.call(0, 4, 3); break;
            case 5: x.hours(1); break;
            case 6: x.ends(0); break;
            default: x.towns(3); break;
        }
    }

    /** All that a state has, as a number. */
    private static long viewOf(StickyRoutes x) {
        long h = 7;
        for (int what = 4; what <= 8; what++) {
            h = 31 * h + x.told(what);
        }
        for (int what = 0; what < 5; what++) {
            h = 31 * h + x.all(what);
        }
        int n = x.told(4);
        for (int a = 0; a < n; a++) {
            int b = (a + 1) % n;
            h = 31 * h + x.pair(a, b, 4) + 7 * x.of(a, b, 2) + 11 * x.sticky(a, b);
        }
        return 31 * h + x.would(2, 0);
    }

    private void told() {
        promise = "25";
        StickyRoutes x = new StickyRoutes();
        x.towns(5);
        x.back(1);
        x.call(0, 1, 5);
        x.call(0, 2, 5);
        x.hours(3);
        x.seed(77);
        x.seed(78);
        typed(x, "+1;+");
        x.towns(9);
        x.towns(9);
        x.towns(9);
        x.ends(7);
        x.ends(7);
        int[] want = {3, 2, 0, 4, 5, 1, 2, 3, 78, 5};
        for (int what = 0; what <= 9; what++) {
            due("told " + what, x.told(what), want[what]);
        }
        bad("told 10", x, 4, x.told(10));
        bad("told -1", x, 5, x.told(-1));
        bad("told", x, 6, x.told(HIGH));
        for (int i = 0; i < 119; i++) {
            x.type(0);
        }
        due("full", x.told(2), 3);
    }

    private static long mix(long h, int... vs) {
        long mixed = h;
        for (int v : vs) {
            mixed = 31 * mixed + v;
        }
        return mixed;
    }

    private void digest() {
        promise = "26";
        StickyRoutes x = triangle();
        x.link(1, 2, 1, 3);
        x.load(5, 6);
        due("over", x.call(1, 0, 9), 2);
        due("straight", x.call(2, 1, 8), NONE);
        due("refused", x.call(0, 1, 7), REFUSED);
        x.all(9);
        x.ends(2);
        x.ends(3);
        typed(x, "abc");
        long h = mix(2129, 1, 2, 0, 3, 3, 0, 2, 0, 1103527590, 5);
        h = mix(h, 0, 0, 0, 5, 0, 4, 5, 3, 3);
        h = mix(h, 2, 1, 1, 0, 2, 0, 0, 0, 1, 0, 0, 0);
        h = mix(h, 0, 0, 0, 0, 0, 6, 0, 0, 0, 0, 0, 0, 0, 0, 0, 0, 0, 0, 0, 0, 0, 0, 0, 0);
        h = mix(h, 1, 0, 2, 9, 2, 1, NONE, 8);
        due("digest", x.digest(), h);
        due("twice", x.digest(), h);
    }

    private void refusals() {
        promise = "refusals";
        StickyRoutes x = new StickyRoutes();
        x.call(0, 1, 5);
        long view = viewOf(x);
        int states = x.told(9);
        x.towns(0);
        x.link(0, 0, 0, 0);
        x.links(0, 99);
        x.back(9);
        x.load(99, 9);
        x.seed(-5);
        x.call(0, 1, 99);
        x.hours(0);
        x.ends(-1);
        x.ends(5);
        x.type(-9);
        x.would(0, 0);
        x.best(0, 0);
        x.choked(9);
        due("nothing changed", viewOf(x), view);
        due("bad", x.told(0), 13);
        due("no", x.told(1), 1);
        due("states", x.told(9), states);
    }
}
