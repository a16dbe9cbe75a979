import java.math.BigInteger;

/** The sentences of the document's Terms (but for THE TEXT) that name a boundary case, in their order. */
public final class TermsBoundsTest {
    private static final String TERMS_1 = "Terms 1";
    private static final String TERMS_2 = "Terms 2";

    /** Three towns, no wires between 0 and 1: a call of these goes over 2 or is refused. */
    private static final String TRIANGLE = "towns 3 | link 0 1 0 0 | ";
    /** Four towns, no wires between 0 and 1: a call of these goes over 2 or 3. */
    private static final String SQUARE = "link 0 1 0 0 | ";
    /** 79 calls that go on, with wires for more. */
    private static final String ALMOST_FULL = "towns 3 | links 0 30 | " + Routes.times(26, "call 0 1 24 | call 1 2 24 | call 2 0 24")
        + "call 0 1 24 | ";

    private final Bounds b = new Bounds();

    public static void main(String[] args) {
        new TermsBoundsTest().all();
    }

    private void all() {
        lastCallOfAnObject();
        townsAtFirst();
        linksAtFirst();
        freeBelowNothing();
        heldByBothLinks();
        stickiesAtFirst();
        hoursOfACall();
        straightByTheLastWire();
        overByMoreThanTheReserve();
        handedBackIfJustTheFirstHas();
        handedBackOnce();
        refusedAndDrawnAnew();
        drawnByXAndWhatIsLeftOver();
        drawnOfTheTownsBetween();
        eightyCalls();
        hoursThatAreOver();
        countsAtFirst();
        countsOfOrderedPairs();
        hourOfTheDay();
        loadsOfAnHour();
        callsByLoads();
        callsByLoadsDrawOn();
        statesFiveAtMost();
        statesByEachCallToldS();
        refusedTheFirstOf();
        b.end("TermsBoundsTest");
    }

    /** X after it was drawn once, by numbers without an end. */
    private static long next(long x) {
        return BigInteger.valueOf(x).multiply(BigInteger.valueOf(1103515245)).add(BigInteger.valueOf(12345))
            .mod(BigInteger.valueOf(2147483648L)).longValueExact();
    }

    private static int least(int a, int b) {
        int t = 0;
        while (t == a || t == b) {
            t++;
        }
        return t;
    }

    private void lastCallOfAnObject() {
        b.sentence("What it is", "An object is used for at most 512 calls");
        b.run(Routes.times(511, "told 4 = 4") + "call 0 1 24 = NONE");
        b.run(Routes.times(511, "links 0 30 = 6") + "undo = 4");
        b.run(Routes.times(256, "call 0 1 1 = NONE | undo = 0"));
        b.run("load 1 9 | " + Routes.times(510, "hours 48") + "told 7 = " + 48 * 510);
    }

    private void townsAtFirst() {
        b.sentence(TERMS_1, "TOWNS 0 .. n less 1 (n 3 .. 6; 4 at first)");
        b.run("told 4 = 4 | sticky 3 0 = 1 | sticky 0 3 = 1 | sticky 4 0 = BAD | sticky 0 4 = BAD | told 0 = 2");
        for (int n = 3; n <= 6; n++) {
            String last = (n - 1) + " 0";
            String none = n + " 0";
            b.run("towns " + n + " = 4 | told 4 = " + n + " | sticky " + last + " = 1 | sticky " + none + " = BAD | sticky -1 0 = BAD");
        }
    }

    private void linksAtFirst() {
        b.sentence(TERMS_1, "Each two have a LINK, of WIRES (0 .. 30; 5 at first) and a RESERVE (0 .. 30; 0 at first) of them");
        for (int n = 3; n <= 6; n++) {
            for (int x = 0; x < n; x++) {
                for (int y = 0; y < n; y++) {
                    if (x != y) {
                        String link = "of " + x + " " + y;
                        b.run("towns " + n + " | " + link + " 0 = 5 | " + link + " 1 = 0 | " + link + " 2 = 5 | " + link + " 3 = 0");
                    }
                }
            }
        }
        b.run("link 2 1 0 30 = 5 | of 1 2 0 = 30 | of 2 1 0 = 30 | link 1 2 0 0 = 30 | of 2 1 0 = 0");
        b.run("link 2 1 1 30 = 0 | of 1 2 1 = 30 | of 2 1 1 = 30 | link 1 2 1 0 = 30 | of 2 1 1 = 0");
        b.run("link 0 1 1 30 | of 0 1 0 = 5 | of 0 1 2 = 5");
    }

    private void freeBelowNothing() {
        b.sentence(TERMS_1, "FREE of a LINK: WIRES less those that calls hold (below 0 is 0: when WIRES become fewer, calls go on)");
        String two = "call 0 1 9 | call 1 0 9 | ";
        b.run(two + "link 0 1 0 3 = 5 | of 0 1 2 = 1 | of 1 0 2 = 1");
        b.run(two + "link 0 1 0 2 = 5 | of 0 1 2 = 0");
        b.run(two + "link 0 1 0 1 = 5 | of 0 1 2 = 0 | told 6 = 2 | worst 2 = 1 | worst 3 = 0 | burden = 1000");
        b.run(two + "link 0 1 0 0 = 5 | of 0 1 2 = 0 | told 6 = 2 | going 0 3 = 9 | going 1 3 = 9");
        b.run(two + "links 0 0 = 6 | of 0 1 2 = 0 | told 6 = 2 | hours 8 = 0 | hours 1 = 2");
        // Below 0 stays 0 until as many are let go; only then is a wire free.
        b.run(two + "call 0 1 9 | link 0 1 0 2 | of 0 1 2 = 0 | ends 0 = 2 | of 0 1 2 = 0 | ends 0 = 1 | of 0 1 2 = 1");
        b.run(two + "link 0 1 0 0 | link 0 1 0 2 | of 0 1 2 = 0 | link 0 1 0 3 | of 0 1 2 = 1 | link 0 1 0 30 | of 0 1 2 = 28");
        // No call goes by a wire that is not there.
        b.run(two + "link 0 1 0 1 | call 0 1 9 = 2 | link 0 1 0 3 | call 0 1 9 = NONE | call 0 1 9 = 2");
        b.run("call 0 2 9 | call 0 2 9 | link 0 1 0 0 | link 0 2 0 1 | call 0 1 9 = REFUSED");
        b.run("link 0 1 0 0 | call 0 1 9 = 2 | call 0 1 9 = 2 | link 0 2 0 1 | of 0 2 2 = 0 | of 0 2 3 = 2 | of 1 2 2 = 3");
        Routes digested = Routes.after("towns 3 | call 0 1 9 | call 0 1 9 | link 0 1 0 1");
        long h = 2129;
        for (int v : new int[] {0, 0, 0, 0, 3, 0, 2, 0, 1, 4, 1, 0, 0, 5, 0, 5, 5, 0, 5}) {
            h = 31 * h + v;
        }
        for (int pair = 0; pair < 6; pair++) {
            h = (31 * h + new int[] {2, 1, 2, 0, 1, 0}[pair]) * 31;
        }
        for (int i = 0; i < 24; i++) {
            h *= 31;
        }
        for (int v : new int[] {0, 1, -1, 9, 0, 1, -1, 9}) {
            h = 31 * h + v;
        }
        b.due("digest of a LINK with fewer WIRES than are held", digested.ask("digest"), h);
    }

    private void heldByBothLinks() {
        b.sentence(TERMS_1, "it holds one of each");
        b.run(TRIANGLE + "call 0 1 2 = 2 | of 0 2 2 = 4 | of 2 1 2 = 4 | of 0 1 2 = 0 | of 0 2 3 = 1 | of 2 1 3 = 1 | of 0 1 3 = 0");
        b.run(TRIANGLE + "call 1 0 2 = 2 | of 0 2 2 = 4 | of 2 1 2 = 4 | hours 1 = 0 | of 0 2 2 = 4 | hours 1 = 1 | of 0 2 2 = 5 | of 2 1 2 = 5");
        b.run(TRIANGLE + "call 0 1 2 = 2 | ends 0 = 0 | of 0 2 2 = 5 | of 2 1 2 = 5 | of 0 2 3 = 0");
        b.sentence(TERMS_1, "STRAIGHT .. it holds one");
        b.run("towns 3 | call 0 1 2 = NONE | of 0 1 2 = 4 | of 0 2 2 = 5 | of 1 2 2 = 5 | of 0 1 3 = 0 | ends 0 = 0 | of 0 1 2 = 5");
    }

    private void stickiesAtFirst() {
        b.sentence(TERMS_1, "For each ordered pair of towns (from, to) a STICKY town, another one than both: at first the least such");
        b.run("towns 3 | sticky 0 1 = 2 | sticky 1 0 = 2 | sticky 0 2 = 1 | sticky 2 0 = 1 | sticky 1 2 = 0 | sticky 2 1 = 0");
        for (int n = 3; n <= 6; n++) {
            StringBuilder calls = new StringBuilder("towns " + n);
            for (int x = 0; x < n; x++) {
                for (int y = 0; y < n; y++) {
                    if (x != y) {
                        calls.append(" | sticky ").append(x).append(' ').append(y).append(" = ").append(least(x, y));
                    }
                }
            }
            b.run(calls.toString());
        }
        b.sentence(TERMS_1, "for each ordered pair: the other way has its own");
        // From 1 the first drawn number even is 16838, 5758; the third is 10113: of 2 and 3 the second.
        b.run("links 0 0 | call 0 1 1 | call 0 1 1 | call 0 1 1 | sticky 0 1 = 3 | sticky 1 0 = 2");
    }

    private void hoursOfACall() {
        b.sentence(TERMS_1, "A CALL from a to b for h HOURS (1 .. 24)");
        b.run("call 0 1 1 = NONE | going 0 3 = 1 | hours 1 = 1 | told 6 = 0");
        b.run("call 0 1 2 = NONE | hours 1 = 0 | going 0 3 = 1 | hours 1 = 1");
        b.run("call 0 1 24 = NONE | going 0 3 = 24 | hours 23 = 0 | going 0 3 = 1 | told 6 = 1 | hours 1 = 1 | told 6 = 0");
        for (String h : new String[] {"0", "25", "-1", "LOW", "HIGH"}) {
            b.refused("call 0 1 9 | link 0 1 0 0", "call 0 1 " + h, "BAD");
        }
    }

    private void straightByTheLastWire() {
        b.sentence(TERMS_1, "STRAIGHT, if the LINK of a and b has a FREE wire");
        b.run("link 0 1 0 1 | call 0 1 9 = NONE | of 0 1 2 = 0 | call 0 1 9 = 2 | all 1 = 1 | all 2 = 1");
        b.run("link 0 1 0 0 | call 0 1 9 = 2 | call 1 0 9 = 2 | all 1 = 0");
        b.run("links 0 1 | call 1 0 9 = NONE | call 0 1 9 = 2");
        b.run("links 0 30 | " + Routes.times(30, "call 0 1 9 = NONE") + "of 0 1 2 = 0 | call 0 1 9 = 2");
        b.sentence(TERMS_1, "wires held back (RESERVE) are of no matter to what goes STRAIGHT");
        b.run("links 1 30 | " + Routes.times(5, "call 0 1 9 = NONE") + "call 0 1 9 = REFUSED");
        b.sentence(TERMS_1, "what goes STRAIGHT draws nothing and keeps the STICKY town");
        b.run("back 1 | call 0 1 9 = NONE | told 8 = 1 | sticky 0 1 = 2 | all 3 = 0");
    }

    private void overByMoreThanTheReserve() {
        b.sentence(TERMS_1, "if the LINKS of a and t, of t and b both have more FREE wires than their RESERVE");
        for (int r : new int[] {0, 1, 2, 15, 28, 29}) {
            String reserves = TRIANGLE + "links 1 " + r + " | ";
            String first = "link 0 2 0 ";
            String second = " | link 2 1 0 ";
            b.run(reserves + first + (r + 1) + second + (r + 1) + " | call 0 1 9 = 2 | call 1 0 9 = REFUSED");
            b.run(reserves + first + r + second + (r + 1) + " | call 0 1 9 = REFUSED | call 1 0 9 = REFUSED");
            b.run(reserves + first + (r + 1) + second + r + " | call 0 1 9 = REFUSED | call 1 0 9 = REFUSED");
            b.run(reserves + first + r + second + r + " | call 0 1 9 = REFUSED | call 1 0 9 = REFUSED");
        }
        b.run(TRIANGLE + "links 1 30 | link 0 2 0 30 | link 2 1 0 30 | call 0 1 9 = REFUSED");
        b.sentence(TERMS_1, "their RESERVE: each LINK its own, the LINK of a and b none");
        b.run(TRIANGLE + "link 0 1 1 30 | call 0 1 9 = 2");
        b.run(TRIANGLE + "link 0 2 1 4 | link 2 1 1 4 | call 0 1 9 = 2 | call 0 1 9 = REFUSED");
        b.run(TRIANGLE + "link 0 2 1 5 | call 0 1 9 = REFUSED");
        b.run(TRIANGLE + "link 2 1 1 5 | call 0 1 9 = REFUSED");
        b.sentence(TERMS_1, "FREE wires, not WIRES");
        b.run(TRIANGLE + "link 0 2 0 2 | link 0 2 1 1 | call 0 2 9 = NONE | call 0 1 9 = REFUSED");
        b.run(TRIANGLE + "link 2 1 0 2 | link 2 1 1 1 | call 1 2 9 = NONE | call 0 1 9 = REFUSED | ends 0 = 0 | call 0 1 9 = 2");
        b.sentence("What it is", "kept as long as it serves");
        b.run(SQUARE + Routes.times(5, "call 0 1 9 = 2 | sticky 0 1 = 2") + "told 8 = 1 | call 0 1 9 = REFUSED");
    }

    private void handedBackIfJustTheFirstHas() {
        b.sentence(TERMS_1, "If just the first one has (the second one has not), and BACK is on (1; 0 at first)");
        long once = next(1);
        long twice = next(once);
        String counts = " | all 0 = 1 | all 1 = 0 | all 2 = ";
        b.run("told 5 = 0 | " + SQUARE + "link 2 1 0 0 | call 0 1 9 = REFUSED" + counts + "0 | all 3 = 0 | all 4 = 1 | told 8 = " + once);
        b.run(SQUARE + "back 1 | back 0 | link 2 1 0 0 | call 0 1 9 = REFUSED" + counts + "0 | all 3 = 0 | all 4 = 1 | told 8 = " + once);
        b.run(SQUARE + "back 1 | link 2 1 0 0 | call 0 1 9 = REFUSED" + counts + "0 | all 3 = 1 | all 4 = 1 | told 8 = " + twice);
        b.run(SQUARE + "back 1 | link 0 2 0 0 | call 0 1 9 = REFUSED" + counts + "0 | all 3 = 0 | all 4 = 1 | told 8 = " + once);
        b.run(SQUARE + "back 1 | link 0 2 0 0 | link 2 1 0 0 | call 0 1 9 = REFUSED" + counts + "0 | all 3 = 0 | all 4 = 1 | told 8 = "
            + once);
        b.run(SQUARE + "back 1 | call 0 1 9 = 2" + counts + "1 | all 3 = 0 | all 4 = 0 | told 8 = 1");
        b.sentence(TERMS_1, "has: more FREE wires than the RESERVE, of the second one as of the first");
        b.run(SQUARE + "back 1 | link 2 1 1 5 | call 0 1 9 = REFUSED | all 3 = 1");
        b.run(SQUARE + "back 1 | link 2 1 1 5 | link 0 2 1 4 | call 0 1 9 = REFUSED | all 3 = 1");
        b.run(SQUARE + "back 1 | link 2 1 1 5 | link 0 2 1 5 | call 0 1 9 = REFUSED | all 3 = 0");
        b.run(SQUARE + "back 1 | link 2 1 1 4 | link 0 2 1 4 | call 0 1 9 = 2 | all 3 = 0");
    }

    /** The least seed from which 0 to 1 of four towns draws 3 (rather than 2). */
    private static long seedThatDrawsThree() {
        long seed = 0;
        while (next(seed) / 65536 % 2 == 0) {
            seed++;
        }
        return seed;
    }

    private void handedBackOnce() {
        b.sentence(TERMS_1, "it is handed BACK once: the STICKY town is drawn anew, and with it the same is asked once more");
        long seed = seedThatDrawsThree();
        long once = next(seed);
        String start = SQUARE + "back 1 | link 2 1 0 0 | seed " + seed + " | ";
        b.run(start + "call 0 1 9 = 3 | all 0 = 1 | all 2 = 1 | all 3 = 1 | all 4 = 0 | sticky 0 1 = 3 | told 8 = " + once
            + " | going 0 2 = 3 | of 0 3 3 = 1 | of 3 1 3 = 1 | of 0 2 3 = 0 | told 6 = 1 | pair 0 1 3 = 1 | pair 1 0 3 = 0");
        b.sentence(TERMS_1, "now without handing back; if that fails, too, it is REFUSED, and the STICKY town is drawn anew");
        String fails = "call 0 1 9 = REFUSED | all 0 = 1 | all 2 = 0 | all 3 = 1 | all 4 = 1 | told 6 = 0 | told 8 = " + next(once)
            + " | sticky 0 1 = " + (2 + next(once) / 65536 % 2);
        b.run(start + "link 3 1 0 0 | " + fails);
        b.run(start + "link 0 3 0 0 | " + fails);
        b.run(start + "link 0 3 0 0 | link 3 1 0 0 | " + fails);
        b.run(start + "link 0 3 1 5 | " + fails);
        b.run(start + "link 3 1 1 5 | " + fails);
        b.sentence(TERMS_1, "handed BACK once: once a call, not once a pair");
        b.run(start + "link 3 1 0 0 | call 0 1 9 = REFUSED | call 0 1 9 = REFUSED | call 0 1 9 = REFUSED | all 3 = 3 | all 4 = 3");
        b.sentence(TERMS_1, "it may be the same: of three towns it is");
        b.run(TRIANGLE + "back 1 | link 2 1 0 0 | call 0 1 9 = REFUSED | all 3 = 1 | sticky 0 1 = 2 | told 8 = " + next(next(1)));
    }

    private void refusedAndDrawnAnew() {
        b.sentence(TERMS_1, "Else it is REFUSED, and the STICKY town is drawn anew");
        StringBuilder calls = new StringBuilder("links 0 0 | ");
        long x = 1;
        for (int i = 0; i < 60; i++) {
            x = next(x);
            calls.append("call 0 1 1 = REFUSED | sticky 0 1 = ").append(2 + x / 65536 % 2).append(" | told 8 = ").append(x).append(" | ");
        }
        b.run(calls + "told 6 = 0 | all 0 = 60 | all 4 = 60");
        b.sentence(TERMS_1, "the STICKY town of that pair alone");
        b.run("seed " + seedThatDrawsThree() + " | links 0 0 | call 0 1 1 | sticky 0 1 = 3 | sticky 1 0 = 2 | sticky 0 2 = 1 | sticky 2 1 = 0");
    }

    private void drawnByXAndWhatIsLeftOver() {
        b.sentence(TERMS_1, "X (1 at first) becomes X times 1103515245 and 12345, by 2147483648 what is left over");
        b.run("told 8 = 1 | links 0 0 | call 0 1 1 | told 8 = 1103527590");
        b.run("seed 0 | links 0 0 | call 0 1 1 | told 8 = 12345");
        b.run("seed 2 | links 0 0 | call 0 1 1 | told 8 = 59559187");
        long[] seeds = {0, 1, 2, 3, 4, 5, 7, 8, 255, 256, 65535, 65536, 524287, 524288, 999998, 999999};
        for (long seed : seeds) {
            b.run("seed " + seed + " | links 0 0 | call 0 1 1 | told 8 = " + next(seed) + " | call 0 1 1 | told 8 = " + next(next(seed)));
        }
        // The greatest and the least X that a seed leads to: next to what wraps around.
        long greatest = 0;
        long least = 0;
        for (long seed = 0; seed <= 999999; seed++) {
            long x = (seed * 1103515245L + 12345L) % 2147483648L;
            greatest = x > (greatest * 1103515245L + 12345L) % 2147483648L ? seed : greatest;
            least = x < (least * 1103515245L + 12345L) % 2147483648L ? seed : least;
        }
        b.run("seed " + greatest + " | links 0 0 | call 0 1 1 | told 8 = " + next(greatest) + " | call 0 1 1 | told 8 = "
            + next(next(greatest)));
        b.run("seed " + least + " | links 0 0 | call 0 1 1 | told 8 = " + next(least) + " | sticky 0 1 = " + (2 + next(least) / 65536 % 2));
    }

    private void drawnOfTheTownsBetween() {
        b.sentence(TERMS_1, "of the towns that are neither a nor b, rising, the one of number X by 65536 (cut), by how many these are left over");
        // Cut: the greatest X below a next number, and the least of a number.
        long[] seeds = {0, 1, 2, 3, 4, 5, 6, seedWithRest(65535), seedWithRest(0), seedBelow(65536)};
        for (int n = 3; n <= 6; n++) {
            for (int from = 0; from < n; from++) {
                for (int to = 0; to < n; to++) {
                    for (long seed : seeds) {
                        if (from != to) {
                            drawn(n, from, to, seed);
                        }
                    }
                }
            }
        }
    }

    private void drawn(int n, int from, int to, long seed) {
        int[] between = new int[n - 2];
        int many = 0;
        for (int t = 0; t < n; t++) {
            if (t != from && t != to) {
                between[many++] = t;
            }
        }
        String pair = from + " " + to;
        b.run("towns " + n + " | links 0 0 | seed " + seed + " | call " + pair + " 1 = REFUSED | sticky " + pair + " = "
            + between[(int) (next(seed) / 65536 % many)]);
    }

    private static long seedWithRest(long rest) {
        long seed = 0;
        while (next(seed) % 65536 != rest) {
            seed++;
        }
        return seed;
    }

    private static long seedBelow(long bound) {
        long seed = 0;
        while ((seed * 1103515245L + 12345L) % 2147483648L >= bound || seed == 0) {
            seed++;
        }
        return seed;
    }

    private void eightyCalls() {
        b.sentence(TERMS_1, "80 CALLS go on at most");
        b.run(ALMOST_FULL + "told 6 = 79 | call 0 1 24 = NONE | told 6 = 80 | call 0 1 24 = FULL | told 6 = 80 | told 2 = 1");
        String full = ALMOST_FULL + "call 0 1 24 | ";
        b.refused(full, "call 0 1 1", "FULL");
        b.refused(full, "call 2 1 24", "FULL");
        b.run(full + "ends 79 = 79 | call 2 1 24 = NONE | told 6 = 80 | call 2 1 24 = FULL");
        b.run(full + "hours 24 = 80 | told 6 = 0 | call 2 1 24 = NONE");
        b.run(full + "going 79 0 = 0 | going 79 1 = 1 | going 79 3 = 24 | going 80 0 = NONE");
        b.sentence(TERMS_1, "80 CALLS, STRAIGHT or OVER");
        b.run("towns 3 | links 0 30 | link 0 1 0 0 | " + Routes.times(30, "call 0 1 24 = 2") + "link 0 1 0 30 | "
            + Routes.times(30, "call 0 1 24 = NONE") + "told 6 = 60 | call 0 1 24 = REFUSED | told 6 = 60");
        b.sentence("11 hours", "CALLS by LOADS that find 80 going on are REFUSED without more: no STICKY town is drawn");
        b.run(ALMOST_FULL + "load 1 1 | hours 1 = 0 | told 6 = 80 | all 4 = 0 | all 1 = 80 | told 8 = " + next(1));
        b.run(ALMOST_FULL + "load 1 2 | hours 1 = 0 | told 6 = 80 | all 4 = 1 | all 0 = 81 | told 2 = 0 | told 8 = " + next(next(1)));
        // From X 1 the first call by a plan is of 2 (16838 by 3) and 0 (1077663 by 3): refused for want of room, not of wires.
        String none = full + "back 1 | links 0 0 | load 1 1 | hours 1 = 0 | ";
        b.run(none + "pair 2 0 4 = 1 | pair 2 0 0 = 27 | pair 2 0 3 = 0 | sticky 2 0 = 1 | told 8 = " + next(1));
        b.run(none.replace("links 0 0", "links 0 30") + "pair 2 0 4 = 1 | told 6 = 80");
    }

    private void hoursThatAreOver() {
        b.sentence(TERMS_1, "An HOUR goes by: at the end of it calls whose HOURS are over (h of them) let go their wires, as they came");
        String three = "call 0 1 2 | call 1 2 1 | call 2 3 3 | call 3 0 1 | ";
        b.run(three + "hours 1 = 2 | told 6 = 2 | going 0 0 = 0 | going 0 3 = 1 | going 1 0 = 2 | going 1 3 = 2 | going 2 0 = NONE");
        b.run(three + "hours 1 = 2 | of 1 2 2 = 5 | of 3 0 2 = 5 | of 0 1 2 = 4 | of 2 3 2 = 4");
        b.run(three + "hours 2 = 3 | told 6 = 1 | going 0 0 = 2 | going 0 3 = 1 | hours 1 = 1 | hours 1 = 0");
        b.run("hours 1 = 0 | told 7 = 1 | told 6 = 0");
        b.sentence(TERMS_1, "h of them: counted from the hour in which it came");
        b.run("hours 5 | call 0 1 1 = NONE | hours 1 = 1");
        b.run("hours 23 | call 0 1 2 = NONE | hours 1 = 0 | hours 1 = 1 | told 7 = 25");
        b.sentence(TERMS_1, "let go their wires: those of both LINKS, and below 0 as well");
        b.run(TRIANGLE + "call 0 1 1 | link 0 2 0 0 | hours 1 = 1 | of 0 2 2 = 0 | link 0 2 0 1 | of 0 2 2 = 1");
    }

    private void countsAtFirst() {
        b.sentence(TERMS_2, "COUNTS: asked, STRAIGHT, OVER, BACK (handed back), REFUSED, of all and for each ordered pair");
        b.run("all 0 = 0 | all 1 = 0 | all 2 = 0 | all 3 = 0 | all 4 = 0");
        b.run("pair 0 1 0 = 0 | pair 0 1 1 = 0 | pair 0 1 2 = 0 | pair 0 1 3 = 0 | pair 0 1 4 = 0 | pair 3 2 0 = 0 | pair 3 2 4 = 0");
        b.run("call 0 1 25 | call 0 0 1 | all 0 = 0 | all 4 = 0");
        b.run(ALMOST_FULL + "call 0 1 1 | call 0 1 1 = FULL | all 0 = 80 | all 4 = 0 | pair 0 1 4 = 0");
        b.run("call 0 1 1 | hours 1 | call 0 1 1 | ends 0 | all 0 = 2 | all 1 = 2 | pair 0 1 1 = 2");
    }

    private void countsOfOrderedPairs() {
        b.sentence(TERMS_2, "for each ordered pair: asked is STRAIGHT, OVER and REFUSED; BACK is beside these");
        long seed = seedThatDrawsThree();
        String calls = "link 0 1 0 1 | call 0 1 9 = NONE | call 0 1 9 = 2 | back 1 | link 2 1 0 0 | seed " + seed
            + " | call 0 1 9 = 3 | link 3 1 0 0 | call 0 1 9 = REFUSED | ";
        b.run(calls + "pair 0 1 0 = 4 | pair 0 1 1 = 1 | pair 0 1 2 = 2 | pair 0 1 3 = 2 | pair 0 1 4 = 1");
        b.run(calls + "all 0 = 4 | all 1 = 1 | all 2 = 2 | all 3 = 2 | all 4 = 1");
        b.run(calls + "pair 1 0 0 = 0 | pair 1 0 1 = 0 | pair 1 0 2 = 0 | pair 1 0 3 = 0 | pair 1 0 4 = 0");
        b.run(calls + "pair 0 2 0 = 0 | pair 2 1 0 = 0 | pair 0 3 1 = 0 | pair 3 1 2 = 0");
        b.run(calls + "call 1 0 9 = REFUSED | call 3 2 9 = NONE | all 0 = 6 | all 1 = 2 | all 4 = 2 | pair 1 0 4 = 1 | pair 3 2 1 = 1");
    }

    private void hourOfTheDay() {
        b.sentence(TERMS_2, "for HOUR of the day (0 .. 23; the HOUR at first is 0): at the beginning of each HOUR (when an HOUR has gone by)");
        b.run("load 0 1 | all 0 = 0 | hours 23 = 0 | all 0 = 0 | hours 1 = 0 | all 0 = 1 | hours 23 | all 0 = 1 | hours 1 | all 0 = 2");
        b.run("load 1 1 | all 0 = 0 | hours 1 = 0 | all 0 = 1 | hours 23 | all 0 = 1 | hours 1 | all 0 = 2");
        b.run("load 23 1 | hours 22 | all 0 = 0 | hours 1 | all 0 = 1 | hours 23 | all 0 = 1 | hours 1 | all 0 = 2");
        b.run("load 0 1 | load 23 2 | hours 48 | all 0 = 6 | told 7 = 48");
        b.run("load 0 1 | hours 24 | all 0 = 1 | load 0 3 | all 0 = 1 | hours 24 | all 0 = 4");
        b.run("hours 5 | load 5 9 | all 0 = 0 | hours 23 | all 0 = 0 | hours 1 | all 0 = 9");
        b.sentence(TERMS_2, "what ends with an HOUR makes room for what comes at the beginning of the next");
        // From X 1 the first call by a plan is of 2 and 3 for 4 hours.
        b.run("link 2 3 0 1 | call 2 3 1 | load 1 1 | hours 1 = 1 | all 1 = 2 | all 4 = 0 | told 6 = 1 | going 0 3 = 4");
        b.run("link 2 3 0 1 | call 2 3 2 | load 1 1 | hours 1 = 0 | all 1 = 1 | all 2 = 1 | told 6 = 2");
        b.sentence(TERMS_2, "a CALL that comes at the beginning of an HOUR has that HOUR before it");
        b.run("load 1 1 | hours 1 | going 0 3 = 4 | hours 3 = 0 | going 0 3 = 1 | hours 1 = 1");
        b.run("load 1 1 | hours 4 = 0 | told 6 = 1 | hours 1 = 1 | told 6 = 0");
        b.run("load 1 1 | hours 5 = 1 | told 6 = 0");
    }

    private void loadsOfAnHour() {
        b.sentence(TERMS_2, "a LOAD (0 .. 9; 0 at first): so many CALLS come by themselves");
        b.run("hours 48 = 0 | all 0 = 0 | told 8 = 1");
        for (int load = 0; load <= 9; load++) {
            b.run("links 0 30 | load 1 " + load + " | hours 1 = 0 | all 0 = " + load + " | told 6 = " + load + " | hours 1 | all 0 = " + load);
        }
        b.run("load 1 9 | load 1 0 = 9 | hours 24 | all 0 = 0");
        StringBuilder all = new StringBuilder();
        for (int hour = 0; hour < 24; hour++) {
            all.append("load ").append(hour).append(" 9 = 0 | ");
        }
        b.run(all + "hours 48 | all 0 = 432");
        b.sentence(TERMS_2, "a CALL by a LOAD leaves no STATE of its own");
        b.run("load 1 9 | hours 1 | told 9 = 2 | undo = 1 | told 6 = 0 | all 0 = 0 | told 8 = 1 | told 7 = 0");
    }

    /** The least seed from which the first call by a plan of n towns has that from, that to (be it the same) and those hours; -1: none. */
    private static long seedOfPlan(int n, int from, int to, int h) {
        for (long seed = 0; seed <= 999999; seed++) {
            long x = (seed * 1103515245L + 12345L) % 2147483648L;
            if (x / 65536 % n == from && x / 1024 % n == to && 1 + x / 4096 % 6 == h) {
                return seed;
            }
        }
        return -1;
    }

    private void callsByLoads() {
        b.sentence(TERMS_2, "from X by 65536 (cut), by n; to X by 1024, by n, the next one (by n), if that is the same; h 1 and X by 4096, by 6");
        for (int n = 3; n <= 6; n++) {
            for (int from = 0; from < n; from++) {
                for (int to = 0; to < n; to++) {
                    int found = 0;
                    for (int h = 1; h <= 6; h++) {
                        long seed = seedOfPlan(n, from, to, h);
                        if (seed >= 0) {
                            found++;
                            callByLoad(n, from, from == to ? (to + 1) % n : to, h, seed);
                        }
                    }
                    // With 6 towns to and h hang together: not every one meets every other.
                    b.due("some seeds of " + from + " and " + to, Math.min(found, 3), 3);
                }
            }
        }
        b.sentence(TERMS_2, "(cut): X below 65536, and next to what is cut to another number");
        for (long seed : new long[] {seedBelow(65536), seedWithRest(65535), seedWithRest(0)}) {
            long x = next(seed);
            long from = x / 65536 % 4;
            long to = x / 1024 % 4 == from ? (from + 1) % 4 : x / 1024 % 4;
            b.run("load 1 1 | seed " + seed + " | hours 1 | going 0 0 = " + from + " | going 0 1 = " + to + " | going 0 3 = " + (1 + x / 4096 % 6));
        }
    }

    private void callByLoad(int n, int from, int to, int h, long seed) {
        b.run("towns " + n + " | load 1 1 | seed " + seed + " | hours 1 = 0 | told 6 = 1 | going 0 0 = " + from + " | going 0 1 = " + to
            + " | going 0 2 = NONE | going 0 3 = " + h + " | told 8 = " + next(seed) + " | pair " + from + " " + to + " 0 = 1");
    }

    private void callsByLoadsDrawOn() {
        b.sentence(TERMS_2, "for each X becomes the next one as told (STICKY ones are drawn on from that X)");
        long x1 = next(1);
        long x2 = next(x1);
        long x3 = next(x2);
        b.run("load 1 1 | hours 1 | told 8 = " + x1);
        b.run("load 1 2 | hours 1 | told 8 = " + x2);
        b.run("links 0 0 | load 1 1 | hours 1 | all 4 = 1 | sticky 2 3 = " + x2 / 65536 % 2 + " | told 8 = " + x2);
        // The second call by the plan is told by the X behind the drawing.
        long from = x3 / 65536 % 4;
        long to = x3 / 1024 % 4 == from ? (from + 1) % 4 : x3 / 1024 % 4;
        b.run("links 0 0 | load 1 2 | hours 1 | pair " + from + " " + to + " 0 = 1 | all 4 = 2 | told 8 = " + next(x3));
        b.sentence(TERMS_2, "a CALL by a LOAD is handed BACK as others are");
        b.run("back 1 | link 2 3 0 0 | link 0 3 0 0 | load 1 1 | hours 1 | pair 2 3 3 = 1 | all 3 = 1");
    }

    private void statesFiveAtMost() {
        b.sentence(TERMS_2, "STATES: 5 at most, older ones lost");
        b.run("told 9 = 0 | undo = NO | told 1 = 1");
        b.run("seed 10 | told 9 = 1 | undo = 0 | told 8 = 1 | undo = NO");
        String five = "seed 10 | seed 20 | seed 30 | seed 40 | seed 50 | ";
        b.run(five + "told 9 = 5 | undo = 4 | told 8 = 40 | undo = 3 | undo = 2 | undo = 1 | told 8 = 10 | undo = 0 | told 8 = 1 | undo = NO");
        b.run(five + "seed 60 | told 9 = 5 | undo = 4 | told 8 = 50 | undo = 3 | undo = 2 | undo = 1 | undo = 0 | told 8 = 10 | undo = NO");
        b.run(five + five + "seed 1 | seed 2 | told 9 = 5 | undo = 4 | undo = 3 | undo = 2 | undo = 1 | told 8 = 30 | undo = 0 | told 8 = 20"
            + " | undo = NO | told 8 = 20");
        b.run(five + "undo | undo | seed 70 | told 9 = 4 | seed 80 | told 9 = 5 | seed 90 | told 9 = 5 | undo = 4 | told 8 = 80 | undo = 3"
            + " | told 8 = 70 | undo = 2 | told 8 = 30 | undo = 1 | told 8 = 20 | undo = 0 | told 8 = 10 | undo = NO | told 9 = 0");
    }

    private void statesByEachCallToldS() {
        String calls = "load 1 3 | call 0 1 9 | back 1 | text '+1;012;' | ";
        b.sentence(TERMS_2, "each call told S leaves one to go back to (all but how often was refused, THE TEXT)");
        b.leaves(calls, "towns 4", 4);
        b.leaves(calls, "towns 6", 4);
        b.leaves(calls, "link 0 1 0 0", 5);
        b.leaves(calls, "link 0 1 0 5", 5);
        b.leaves(calls, "link 0 1 1 30", 0);
        b.leaves(calls, "links 0 0", 6);
        b.leaves(calls, "links 1 30", 6);
        b.leaves(calls, "back 0", 1);
        b.leaves(calls, "back 1", 1);
        b.leaves(calls, "load 1 0", 3);
        b.leaves(calls, "load 1 3", 3);
        b.leaves(calls, "seed 999999", 1);
        b.leaves(calls, "seed 1", 1);
        b.leaves(calls, "call 0 1 24", -1);
        b.leaves(calls + "link 0 1 0 0 | ", "call 0 1 1", 2);
        b.leaves("links 0 0 | back 1 | ", "call 0 1 1", -5);
        b.leaves(calls, "hours 1", 0);
        b.leaves("load 1 9 | load 2 9 | call 0 1 9 | ", "hours 48", 37);
        b.leaves(calls, "ends 0", 0);
        b.leaves(calls, "does", 1);
        b.sentence(TERMS_2, "calls not told S leave none");
        String some = "call 0 1 9 | text '+1;' | ";
        for (String call : new String[] {"of 0 1 0 = 5", "sticky 0 1 = 2", "going 0 3 = 9", "all 0 = 1", "pair 0 1 0 = 1", "worst 0 = 1",
            "burden = 1000", "would 48 30 = 0", "best 48 1 = 0", "choked 1 = 0", "told 9 = 1", "digest"}) {
            String[] sides = call.split(" = ");
            b.stays(some, sides[0], sides.length > 1 ? Long.parseLong(sides[1]) : Routes.after(some).ask("digest"));
        }
        b.run(some + "type 65 = 4 | told 9 = 1 | clear = 4 | told 9 = 1 | clear = 0 | told 9 = 1 | undo = 0 | told 9 = 0");
        b.sentence(TERMS_2, "THE TEXT and how often was refused are not gone back to");
        b.run("seed 5 | text 'abc' | seed 1000000 | ends 0 | undo = 0 | told 3 = 3 | told 0 = 1 | told 1 = 1 | told 8 = 1");
        b.run("text 'abc' | seed 5 | clear | undo = 0 | told 3 = 0");
    }

    private void refusedTheFirstOf() {
        b.sentence(TERMS_2, "Refused, changing nothing but how often, the first of: BAD -2 .., NO -3 .., FULL -4 80 CALLS go on");
        String full = ALMOST_FULL + "call 0 1 24 | ";
        b.refused(full, "call 0 1 0", "BAD");
        b.refused(full, "call 0 1 25", "BAD");
        b.refused(full, "call 1 1 1", "BAD");
        b.refused(full, "call 0 3 1", "BAD");
        b.refused(full, "call -1 0 1", "BAD");
        b.refused(full, "ends 80", "NO");
        b.refused(full, "ends -1", "BAD");
        b.refused("", "ends -1", "BAD");
        b.refused("", "going -1 4", "BAD");
        b.refused("", "going 0 4", "BAD");
        b.refused("text '" + "+1;".repeat(40) + "' | ", "type 128", "BAD");
        b.sentence(TERMS_2, "how often: each time");
        b.run("back 2 = BAD | back -1 = BAD | undo = NO | undo = NO | undo = NO | told 0 = 2 | told 1 = 3 | told 2 = 0 | told 10 = BAD | told 0 = 3");
        b.run(full + "call 0 1 1 = FULL | call 0 1 1 = FULL | told 2 = 2 | told 0 = 0 | told 1 = 0");
        b.sentence(TERMS_2, "a CALL that is REFUSED is no refused call");
        b.run("links 0 0 | call 0 1 1 = REFUSED | told 0 = 0 | told 1 = 0 | told 2 = 0 | told 9 = 2");
    }
}
