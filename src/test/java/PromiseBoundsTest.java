import java.math.BigInteger;
import java.util.ArrayList;
import java.util.List;

/** The promises one by one: what is still taken and what is not, what is empty and what is full, what is refused. */
public final class PromiseBoundsTest {
    private static final String[] OUTSIDE = {"LOW", "-1", "HIGH"};

    /** Five states, a text, calls that go on, counts and plans: what must not change by a refused call. */
    private static final String BUSY = "links 0 2 | back 1 | load 1 3 | call 0 1 9 | call 0 1 9 | call 0 1 9 | hours 2 | text '+1;012;' | ";
    /** 80 calls that go on, with wires for more. */
    private static final String FULL_OF_CALLS = "towns 3 | links 0 30 | "
        + Routes.times(26, "call 0 1 24 | call 1 2 24 | call 2 0 24") + "call 0 1 24 | call 0 1 24 | ";
    /** Three towns, no wires between 0 and 1: a call of these goes over 2 or is refused. */
    private static final String TRIANGLE = "towns 3 | link 0 1 0 0 | ";

    private final Bounds b = new Bounds();

    public static void main(String[] args) {
        new PromiseBoundsTest().all();
    }

    private void all() {
        constants();
        newObject();
        towns();
        townsAsAtFirst();
        townsOfEachCall();
        link();
        links();
        back();
        load();
        seed();
        of();
        sticky();
        call();
        hours();
        going();
        ends();
        allCounts();
        pair();
        worstPair();
        worstLink();
        burden();
        would();
        best();
        chokedAsTheyAre();
        chokedEachOtherOne();
        undo();
        told();
        digest();
        b.end("PromiseBoundsTest");
    }

    /** Refused as BAD when nothing is there and when much is. */
    private void bad(String... calls) {
        for (String call : calls) {
            b.refused("", call, "BAD");
            b.refused(BUSY, call, "BAD");
        }
    }

    private void constants() {
        b.sentence("The public face", "NONE = -1, BAD = -2, NO = -3, FULL = -4");
        b.due("NONE", StickyRoutes.NONE, -1);
        b.due("BAD", StickyRoutes.BAD, -2);
        b.due("NO", StickyRoutes.NO, -3);
        b.due("FULL", StickyRoutes.FULL, -4);
    }

    private void newObject() {
        b.sentence("1 A new object", "As told");
        b.run("told 0 = 0 | told 1 = 0 | told 2 = 0 | told 3 = 0 | told 4 = 4 | told 5 = 0 | told 6 = 0 | told 7 = 0 | told 8 = 1 | told 9 = 0");
        b.run("going 0 0 = NONE | burden = 0 | choked 0 = 0 | choked 1 = 0 | worst 0 = 1 | worst 1 = 0 | worst 2 = 1 | worst 3 = 5");
        b.run("undo = NO | told 1 = 1");
        b.run("does = -10 | clear = 0");
        b.run("ends 0 = NO | told 1 = 1");
        b.run("would 48 0 = 0 | best 48 0 = 0 | best 48 1 = 0");
        StringBuilder loads = new StringBuilder();
        for (int hour = 0; hour < 24; hour++) {
            loads.append("load ").append(hour).append(" 0 = 0 | ");
        }
        b.run(loads.toString());
        Routes first = Routes.after(BUSY);
        Routes second = new Routes();
        b.due("an object beside another one is new", second.ask("digest"), new Routes().ask("digest"));
        b.due("an object beside another one is its own", first.ask("told 9"), 5);
    }

    private void towns() {
        b.sentence("2 towns", "n becomes v (3 .. 6): what it was. S. BAD");
        b.run("towns 3 = 4 | told 4 = 3 | towns 6 = 3 | told 4 = 6 | towns 5 = 6 | towns 4 = 5 | towns 4 = 4 | told 9 = 5");
        b.leaves("back 1", "towns 3", 4);
        b.leaves("back 1", "towns 6", 4);
        b.leaves("towns 6 | call 4 5 3 | ", "towns 3", 6);
        b.leaves("towns 3 | call 1 2 3 | ", "towns 6", 3);
        bad("towns 2", "towns 7", "towns 0", "towns -1", "towns -3", "towns LOW", "towns HIGH");
        b.refused("towns 6", "towns 7", "BAD");
        b.refused("towns 3", "towns 2", "BAD");
    }

    private void townsAsAtFirst() {
        b.sentence("2 towns", "all else is as at first, but how often was refused, THE TEXT, STATES");
        b.run(BUSY + "back 5 | ends 99 | towns 4 = 4 | told 0 = 1 | told 1 = 1 | told 3 = 7 | told 9 = 5 | told 5 = 0 | told 6 = 0 | told 7 = 0"
            + " | told 8 = 1 | all 0 = 0 | all 1 = 0 | all 2 = 0 | all 3 = 0 | all 4 = 0 | pair 0 1 0 = 0 | of 0 1 0 = 5 | of 0 1 2 = 5"
            + " | of 0 1 1 = 0 | load 1 0 = 0");
        b.run(FULL_OF_CALLS + "call 0 1 1 | towns 3 = 3 | told 2 = 1 | told 6 = 0 | of 0 1 2 = 5 | call 0 1 1 = NONE");
        b.run("links 0 0 | links 1 9 | call 0 1 1 | call 0 1 1 | call 0 1 1 | sticky 0 1 = 3 | towns 4 | sticky 0 1 = 2 | of 0 1 1 = 0"
            + " | told 8 = 1");
        b.run("hours 23 | towns 4 | load 0 1 | hours 1 | all 0 = 0 | told 7 = 1");
        for (int n = 3; n <= 6; n++) {
            Routes changed = Routes.after("towns 6 | links 0 0 | links 1 7 | call 0 5 1 | call 5 0 1 | load 3 9 | hours 9 | back 1"
                + " | seed 7 | towns " + n);
            Routes plain = Routes.after("towns 6 | links 0 5 | links 1 0 | load 3 0 | back 0 | seed 1 | towns " + n);
            b.due("digest of " + n + " towns", changed.ask("digest"), plain.ask("digest"));
            b.due("asked of " + n + " towns", changed.ask("pair 0 2 0"), 0);
        }
    }

    private void townsOfEachCall() {
        String[][] calls = {{"3 link", "link A B 0 1"}, {"8 of", "of A B 0"}, {"9 sticky", "sticky A B"}, {"10 call", "call A B 1"},
            {"15 pair", "pair A B 0"}};
        for (String[] call : calls) {
            for (int n = 3; n <= 6; n++) {
                String before = "towns " + n + " | call 0 1 5 | ";
                b.sentence(call[0], "TOWNS 0 .. n less 1");
                for (String out : new String[] {"LOW", "-1", String.valueOf(n), "HIGH"}) {
                    b.refused(before, call[1].replace("A", out).replace("B", "0"), "BAD");
                    b.refused(before, call[1].replace("A", "0").replace("B", out), "BAD");
                    b.refused(before, call[1].replace("A", out).replace("B", out), "BAD");
                }
                for (int a = 0; a < n; a++) {
                    for (int t = 0; t < n; t++) {
                        String words = call[1].replace("A", String.valueOf(a)).replace("B", String.valueOf(t));
                        if (a != t) {
                            b.due(words, Math.max(-2, Routes.after(before).ask(words)) == -2 ? 0 : 1, 1);
                        }
                    }
                }
                b.sentence(call[0], "BAD: a is b, too");
                for (int a = 0; a < n; a++) {
                    String town = String.valueOf(a);
                    b.refused(before, call[1].replace("A", town).replace("B", town), "BAD");
                }
            }
        }
    }

    private void link() {
        b.sentence("3 link", "WIRES (what 0), RESERVE (1) of a LINK become v: what it was. S. BAD: a is b, too");
        b.leaves("call 0 1 3", "link 0 1 0 0", 5);
        b.leaves("call 0 1 3", "link 1 0 0 30", 5);
        b.leaves("call 0 1 3", "link 0 1 1 0", 0);
        b.leaves("call 0 1 3", "link 1 0 1 30", 0);
        b.run("link 2 3 0 30 = 5 | link 3 2 0 0 = 30 | link 2 3 0 1 = 0 | of 2 3 0 = 1 | of 2 3 1 = 0 | of 0 1 0 = 5 | of 1 2 0 = 5");
        b.run("link 2 3 1 30 = 0 | link 3 2 1 0 = 30 | link 2 3 1 1 = 0 | of 2 3 1 = 1 | of 2 3 0 = 5 | of 0 1 1 = 0 | of 1 2 1 = 0");
        bad("link 0 1 0 -1", "link 0 1 0 31", "link 0 1 1 -1", "link 0 1 1 31", "link 0 1 -1 5", "link 0 1 2 5");
        bad("link 0 0 0 5", "link 3 3 1 5", "link 4 0 0 5", "link 0 4 0 5", "link -1 0 0 5", "link 0 -1 0 5");
        for (String v : OUTSIDE) {
            bad("link 0 1 0 " + v, "link 0 1 1 " + v, "link 0 1 " + v + " 5");
        }
        b.sentence("3 link", "what it was: WIRES, not what is FREE of them");
        b.run("call 0 1 5 | call 0 1 5 | link 0 1 0 9 = 5 | link 0 1 0 9 = 9 | of 0 1 2 = 7");
    }

    private void links() {
        b.sentence("4 links", "WIRES, RESERVE of all LINKS become v (what 0, 1): how many LINKS. S. BAD");
        int[] many = {3, 6, 10, 15};
        for (int n = 3; n <= 6; n++) {
            String towns = "towns " + n + " | ";
            int last = n - 1;
            b.run(towns + "links 0 0 = " + many[n - 3] + " | of 0 1 0 = 0 | of 0 " + last + " 0 = 0 | of " + last + " 1 0 = 0 | of 0 1 1 = 0");
            b.run(towns + "links 0 30 = " + many[n - 3] + " | of 0 1 0 = 30 | of 0 " + last + " 2 = 30 | of " + last + " 1 0 = 30");
            b.run(towns + "links 1 0 = " + many[n - 3] + " | of 0 1 1 = 0 | of 0 1 0 = 5");
            b.run(towns + "links 1 30 = " + many[n - 3] + " | of 0 1 1 = 30 | of 0 " + last + " 1 = 30 | of " + last + " 1 1 = 30 | of 0 1 0 = 5");
            b.leaves(towns, "links 0 0", many[n - 3]);
            b.leaves(towns, "links 1 30", many[n - 3]);
        }
        bad("links 0 -1", "links 0 31", "links 1 -1", "links 1 31", "links -1 5", "links 2 5");
        for (String v : OUTSIDE) {
            bad("links 0 " + v, "links 1 " + v, "links " + v + " 5");
        }
    }

    private void back() {
        b.sentence("5 back", "BACK is on (1), off (0): what it was. S. BAD");
        b.run("back 0 = 0 | back 1 = 0 | told 5 = 1 | back 1 = 1 | told 5 = 1 | back 0 = 1 | told 5 = 0 | told 9 = 4");
        b.leaves("call 0 1 3", "back 1", 0);
        b.leaves("call 0 1 3", "back 0", 0);
        bad("back -1", "back 2", "back LOW", "back HIGH");
    }

    private void load() {
        b.sentence("6 load", "LOAD of an HOUR of the day: what it was. S. BAD");
        b.run("load 0 0 = 0 | load 0 9 = 0 | load 0 1 = 9 | load 23 9 = 0 | load 23 0 = 9 | load 0 0 = 1 | load 22 0 = 0 | load 1 0 = 0");
        b.leaves("call 0 1 3", "load 0 9", 0);
        b.leaves("call 0 1 3 | load 23 4 | ", "load 23 0", 4);
        bad("load -1 0", "load 24 0", "load 0 -1", "load 0 10", "load 23 10", "load 24 10");
        for (String v : OUTSIDE) {
            bad("load 0 " + v, "load " + v + " 5");
        }
        b.sentence("6 load", "no CALL comes by that itself");
        b.run("load 0 9 | load 1 9 | all 0 = 0 | told 6 = 0 | told 8 = 1");
    }

    private void seed() {
        b.sentence("7 seed", "X becomes SEED (0 .. 999999): 1. S. BAD");
        b.run("seed 0 = 1 | told 8 = 0 | seed 999999 = 1 | told 8 = 999999 | seed 1 = 1 | told 8 = 1");
        b.leaves("call 0 1 3", "seed 0", 1);
        b.leaves("call 0 1 3", "seed 999999", 1);
        bad("seed -1", "seed 1000000", "seed LOW", "seed HIGH");
        b.run("seed 0 | links 0 0 | call 0 1 1 | told 8 = 12345 | call 0 1 1 | told 8 = 1406932606");
    }

    private void of() {
        b.sentence("8 of", "WIRES (0), RESERVE (1), FREE (2) of a LINK, how many CALLS hold a wire of it that are not STRAIGHT (3). BAD");
        String calls = TRIANGLE + "link 0 2 0 4 | link 0 2 1 1 | call 0 2 9 | call 0 1 9 | call 1 0 9 | ";
        b.run(calls + "of 0 2 0 = 4 | of 0 2 1 = 1 | of 0 2 2 = 1 | of 0 2 3 = 2 | of 2 0 0 = 4 | of 2 0 1 = 1 | of 2 0 2 = 1 | of 2 0 3 = 2");
        b.run(calls + "of 1 2 0 = 5 | of 1 2 2 = 3 | of 1 2 3 = 2 | of 0 1 0 = 0 | of 0 1 2 = 0 | of 0 1 3 = 0");
        b.run("call 0 1 9 | of 0 1 2 = 4 | of 0 1 3 = 0 | of 0 1 0 = 5");
        b.run(calls + "ends 1 = 2 | of 0 2 3 = 1 | hours 9 = 2 | of 0 2 3 = 0 | of 0 2 2 = 4");
        b.stays(calls, "of 0 2 0", 4);
        b.stays(calls, "of 0 2 3", 2);
        bad("of 0 1 -1", "of 0 1 4", "of 0 1 LOW", "of 0 1 HIGH", "of 0 0 3", "of 4 0 0", "of 0 4 3", "of -1 0 0");
        b.run("towns 3 | links 0 30 | link 0 1 0 0 | " + Routes.times(30, "call 0 1 9 = 2") + "of 0 2 3 = 30 | of 2 1 3 = 30 | of 0 2 2 = 0");
    }

    private void sticky() {
        b.sentence("9 sticky", "The STICKY town of (a, b). BAD");
        b.run("towns 3 | sticky 0 1 = 2 | sticky 2 1 = 0 | towns 6 | sticky 0 1 = 2 | sticky 5 4 = 0 | sticky 0 5 = 1");
        b.stays(BUSY, "sticky 3 2", 0);
        bad("sticky 0 0", "sticky 3 3", "sticky 4 0", "sticky 0 4", "sticky -1 0", "sticky 0 -1", "sticky LOW 0", "sticky 0 HIGH");
    }

    private void call() {
        b.sentence("10 call", "A CALL: NONE STRAIGHT, the town it goes OVER, -5 REFUSED. S. BAD: a is b, too; FULL");
        b.run("call 0 1 1 = NONE | links 0 0 | call 0 1 1 = REFUSED | link 0 2 0 1 | link 2 1 0 1 | seed 1 | call 0 1 1 = 2");
        b.run("link 1 2 0 0 | call 1 2 1 = 0 | call 2 1 24 = 0 | told 6 = 2");
        b.leaves("back 1", "call 0 1 1", -1);
        b.leaves("link 1 2 0 0", "call 1 2 24", 0);
        b.leaves("links 0 0", "call 1 2 24", -5);
        bad("call 0 1 0", "call 0 1 25", "call 0 1 -1", "call 0 1 LOW", "call 0 1 HIGH", "call 0 0 1", "call 3 3 24", "call 4 0 1", "call 0 4 1",
            "call -1 0 1", "call 0 -1 1");
        b.refused(FULL_OF_CALLS, "call 0 1 1", "FULL");
        b.refused(FULL_OF_CALLS, "call 0 1 24", "FULL");
        b.refused(FULL_OF_CALLS + "links 0 0 | ", "call 0 1 24", "FULL");
        b.refused(FULL_OF_CALLS, "call 0 1 25", "BAD");
        b.refused(FULL_OF_CALLS, "call 1 1 24", "BAD");
    }

    private void hours() {
        b.sentence("11 hours", "n (1 .. 48) HOURS go by: how many CALLS ended. S. BAD");
        b.run("hours 1 = 0 | told 7 = 1 | hours 48 = 0 | told 7 = 49 | told 9 = 2");
        b.run("call 0 1 24 | call 0 1 1 | call 0 1 2 | hours 1 = 1 | hours 48 = 2 | told 6 = 0");
        b.run(FULL_OF_CALLS + "hours 23 = 0 | hours 1 = 80 | hours 1 = 0");
        b.leaves("call 0 1 3", "hours 1", 0);
        b.leaves("call 0 1 3", "hours 48", 1);
        b.leaves("load 1 9 | load 2 9 | load 0 9 | ", "hours 1", 0);
        bad("hours 0", "hours 49", "hours -1", "hours LOW", "hours HIGH");
        b.sentence("11 hours", "how many CALLS ended: those that came by LOADS within these HOURS, too");
        // From X 1 the first call by a plan is for 4 hours.
        b.run("load 1 1 | hours 4 = 0 | hours 1 = 1");
        b.run("load 1 1 | hours 48 = 2 | all 0 = 2 | told 6 = 0");
        b.sentence("11 hours", "n HOURS at once are as n HOURS one by one");
        String plans = "towns 5 | links 0 2 | back 1 | load 1 9 | load 2 5 | load 5 3 | load 23 7 | load 0 8 | text '' | ";
        Routes atOnce = Routes.after(plans + "seed 4 | seed 3 | seed 2 | seed 1 | hours 48 | seed 77 | seed 77 | seed 77 | seed 77 | seed 77");
        Routes oneByOne = Routes.after(plans + Routes.times(48, "hours 1") + "seed 77 | seed 77 | seed 77 | seed 77 | seed 77");
        b.due("digest", atOnce.ask("digest"), oneByOne.ask("digest"));
        b.due("asked", atOnce.ask("all 0"), oneByOne.ask("all 0"));
        b.due("straight", atOnce.ask("all 1"), oneByOne.ask("all 1"));
        b.due("handed back", atOnce.ask("all 3"), oneByOne.ask("all 3"));
    }

    private void going() {
        b.sentence("12 going", "Of the k-th CALL that goes on (as they came): from (0), to (1), OVER (2; NONE: STRAIGHT), HOURS it has yet (3)");
        String two = TRIANGLE + "call 1 0 7 | call 2 1 9 | ";
        b.run(two + "going 0 0 = 1 | going 0 1 = 0 | going 0 2 = 2 | going 0 3 = 7 | going 1 0 = 2 | going 1 1 = 1 | going 1 2 = NONE"
            + " | going 1 3 = 9");
        b.run(two + "hours 6 | going 0 3 = 1 | going 1 3 = 3 | hours 1 | going 0 0 = 2 | going 0 3 = 2 | going 1 3 = NONE");
        b.run("call 0 1 24 | going 0 3 = 24 | hours 23 | going 0 3 = 1");
        b.sentence("12 going", "NONE: not so many. BAD: k below 0, too");
        for (int what = 0; what <= 3; what++) {
            b.stays("", "going 0 " + what, -1);
            b.stays(two, "going 2 " + what, -1);
            b.stays(two, "going 80 " + what, -1);
            b.stays(two, "going HIGH " + what, -1);
            bad("going -1 " + what, "going LOW " + what);
        }
        b.stays(two, "going 1 3", 9);
        bad("going 0 -1", "going 0 4", "going 0 LOW", "going 0 HIGH", "going 99 4", "going 99 -1");
        b.run(FULL_OF_CALLS + "going 79 0 = 0 | going 79 3 = 24 | going 80 3 = NONE | going 81 3 = NONE");
    }

    private void ends() {
        b.sentence("13 ends", "The k-th CALL lets go at once: how many go on. S. BAD: k below 0, too; NO: not so many");
        String three = "call 0 1 7 | call 1 2 8 | call 2 3 9 | ";
        b.run(three + "ends 0 = 2 | of 0 1 2 = 5 | of 1 2 2 = 4 | going 0 3 = 8 | going 1 3 = 9 | ends 1 = 1 | going 0 3 = 8 | ends 0 = 0");
        b.run(three + "ends 2 = 2 | of 2 3 2 = 5 | going 0 3 = 7 | going 1 3 = 8 | going 2 3 = NONE");
        b.run(three + "ends 1 = 2 | of 1 2 2 = 5 | going 0 3 = 7 | going 1 3 = 9 | all 0 = 3");
        b.run(FULL_OF_CALLS + "ends 79 = 79 | ends 79 = NO | ends 0 = 78 | told 1 = 1");
        b.run(FULL_OF_CALLS + Routes.times(5, "ends 0") + "told 6 = 75 | undo | undo | undo | undo | undo | told 6 = 80 | of 0 1 2 = 2");
        b.leaves(three, "ends 0", 2);
        b.leaves(three, "ends 2", 2);
        b.leaves(TRIANGLE + "call 0 1 5 | ", "ends 0", 0);
        b.refused("", "ends 0", "NO");
        b.refused("", "ends HIGH", "NO");
        b.refused(three, "ends 3", "NO");
        b.refused(BUSY, "ends 80", "NO");
        b.refused(BUSY, "ends HIGH", "NO");
        b.refused(FULL_OF_CALLS, "ends 80", "NO");
        bad("ends -1", "ends LOW");
    }

    private void allCounts() {
        b.sentence("14 all", "Of all: asked (0), STRAIGHT (1), OVER (2), BACK (3), REFUSED (4). BAD");
        b.run("all 0 = 0 | all 4 = 0 | all 5 = BAD | all -1 = BAD");
        String calls = "link 0 1 0 2 | call 0 1 9 | call 0 1 9 | call 0 1 9 | link 2 1 0 0 | back 1 | call 0 1 9 | ";
        b.run(calls + "all 0 = 4 | all 1 = 2 | all 2 = 1 | all 3 = 1 | all 4 = 1");
        b.stays(calls, "all 0", 4);
        b.stays(calls, "all 4", 1);
        bad("all -1", "all 5", "all LOW", "all HIGH");
    }

    private void pair() {
        b.sentence("15 pair", "Of an ordered pair. BAD");
        String calls = "link 0 1 0 2 | call 0 1 9 | call 0 1 9 | call 0 1 9 | link 2 1 0 0 | back 1 | call 0 1 9 | ";
        b.run(calls + "pair 0 1 0 = 4 | pair 0 1 1 = 2 | pair 0 1 2 = 1 | pair 0 1 3 = 1 | pair 0 1 4 = 1 | pair 1 0 0 = 0 | pair 1 0 4 = 0");
        b.stays(calls, "pair 0 1 0", 4);
        b.stays(calls, "pair 0 1 4", 1);
        bad("pair 0 1 -1", "pair 0 1 5", "pair 0 1 LOW", "pair 0 1 HIGH", "pair 0 0 0", "pair 4 0 0", "pair 0 4 0", "pair -1 0 4", "pair 0 -1 4");
        b.sentence("15 pair", "a pair that was not asked beside one of each count");
        b.run("towns 6 | call 5 4 1 | pair 5 4 0 = 1 | pair 5 4 1 = 1 | pair 4 5 0 = 0 | pair 0 1 0 = 0 | pair 3 5 1 = 0");
    }

    private void worstPair() {
        b.sentence("16 worst", "The ordered pair of most REFUSED (what 0: 10 a and b; of like ones the first by a, then b), how many (1)");
        b.run("worst 0 = 1 | worst 1 = 0");
        b.run("call 3 2 1 | worst 0 = 1 | worst 1 = 0");
        String none = "towns 6 | links 0 0 | ";
        b.run(none + "worst 0 = 1 | call 5 4 1 | worst 0 = 54 | worst 1 = 1 | call 4 5 1 | worst 0 = 45 | call 5 4 1 | worst 0 = 54 | worst 1 = 2");
        b.run(none + "call 1 0 1 | worst 0 = 10 | call 0 5 1 | worst 0 = 5 | call 0 4 1 | worst 0 = 4 | call 0 1 1 | worst 0 = 1 | worst 1 = 1");
        b.run(none + "call 2 5 1 | call 2 3 1 | worst 0 = 23 | call 2 5 1 | worst 0 = 25 | call 2 3 1 | worst 0 = 23 | worst 1 = 2");
        b.stays(none + "call 5 4 1 | ", "worst 0", 54);
        b.stays(none + "call 5 4 1 | ", "worst 1", 1);
        bad("worst -1", "worst 4", "worst LOW", "worst HIGH");
    }

    private void worstLink() {
        b.sentence("16 worst", "the LINK of fewest FREE wires (2: 10 a and b, a below b; likewise), how many (3)");
        b.run("worst 2 = 1 | worst 3 = 5");
        b.run("towns 6 | link 5 4 0 4 | worst 2 = 45 | worst 3 = 4 | link 3 4 0 4 | worst 2 = 34 | link 5 0 0 4 | worst 2 = 5"
            + " | link 4 5 0 3 | worst 2 = 45 | worst 3 = 3");
        b.run("link 1 3 0 4 | worst 2 = 13 | link 2 1 0 4 | worst 2 = 12 | link 0 3 0 4 | worst 2 = 3 | link 0 1 0 4 | worst 2 = 1");
        b.run("call 3 2 9 | worst 2 = 23 | worst 3 = 4 | hours 9 | worst 2 = 1 | worst 3 = 5");
        b.run("links 0 0 | worst 2 = 1 | worst 3 = 0 | link 0 1 0 30 | worst 2 = 2 | worst 3 = 0");
        b.run("links 0 30 | worst 2 = 1 | worst 3 = 30");
        b.sentence("16 worst", "fewest FREE: below 0 is 0");
        b.run("call 2 3 9 | call 2 3 9 | link 2 3 0 1 | link 0 1 0 0 | worst 2 = 1 | worst 3 = 0");
        b.stays(BUSY, "worst 2", 1);
        b.stays(BUSY, "worst 3", 0);
    }

    private void burden() {
        b.sentence("17 burden", "All wires that calls hold, by how many CALLS go on, in 1000ths, cut (0: none go on)");
        b.run("burden = 0 | call 0 1 1 = NONE | burden = 1000 | hours 1 | burden = 0");
        b.run(TRIANGLE + "call 0 1 1 = 2 | burden = 2000 | call 0 2 1 | burden = 1500 | call 0 2 1 | burden = 1333 | call 1 0 1 = 2 | call 1 0 1 = 2"
            + " | burden = 1600 | ends 1 = 4 | burden = 1750 | ends 0 | burden = 1666");
        b.run("links 0 0 | call 0 1 1 = REFUSED | burden = 0");
        b.run(FULL_OF_CALLS + "burden = 1000 | link 0 1 0 0 | ends 0 = 79 | call 0 1 1 = 2 | burden = 1012");
        b.run("call 0 1 9 | link 0 1 0 0 | burden = 1000");
        b.stays("link 0 1 0 1 | call 0 1 9 | call 0 1 9 | call 0 2 9 | ", "burden", 1333);
    }

    private void would() {
        b.sentence("18 would", "REFUSED in n (1 .. 48) HOURS from now, were RESERVES of all LINKS r (0 .. 30). BAD");
        String none = "links 0 0 | load 1 4 | load 0 3 | ";
        b.run(none + "would 1 0 = 4 | would 23 30 = 4 | would 24 0 = 7 | would 25 30 = 11 | would 47 0 = 11 | would 48 0 = 14 | would 48 30 = 14");
        b.run(none + "hours 23 | would 1 0 = 3 | would 2 0 = 7 | would 48 0 = 14");
        b.sentence("18 would", "REFUSED in these HOURS: not what was refused before");
        b.run(none + "hours 24 | all 4 = 7 | would 1 0 = 4 | would 23 0 = 4");
        b.sentence("18 would", "were RESERVES of all LINKS r, whatever they are");
        // From X 1 the first call by a plan is of 2 and 3: over 0, if its LINKS have more than the RESERVE.
        String over = "link 2 3 0 0 | load 1 1 | ";
        b.run(over + "would 1 0 = 0 | would 1 4 = 0 | would 1 5 = 1 | would 1 30 = 1 | links 1 5 | would 1 4 = 0 | would 1 5 = 1");
        b.run(over + "links 0 30 | link 2 3 0 0 | would 1 29 = 0 | would 1 30 = 1");
        b.sentence("18 would", "80 CALLS go on at most: what finds these is REFUSED");
        b.run(FULL_OF_CALLS + "load 1 9 | would 1 0 = 9 | ends 0 | would 1 0 = 8");
        b.sentence("what would be", "all stays");
        b.stays(none, "would 1 0", 4);
        b.stays(none, "would 48 30", 14);
        b.stays(BUSY + "back 0 | ", "would 1 30", Routes.after(BUSY + "back 0 | ").ask("would 1 30"));
        bad("would 0 0", "would 49 0", "would 1 -1", "would 1 31", "would 48 31", "would 49 30");
        for (String v : OUTSIDE) {
            bad("would 1 " + v, "would " + v + " 5");
        }
    }

    private void best() {
        b.sentence("19 best", "The r (0 .. 30) of the fewest REFUSED in n (1 .. 48) HOURS (of like ones the least): which (what 0), how"
            + " many (1). BAD");
        b.run("best 1 0 = 0 | best 1 1 = 0 | best 48 0 = 0 | best 48 1 = 0");
        String none = "links 0 0 | load 1 4 | load 0 3 | ";
        b.run(none + "best 1 0 = 0 | best 1 1 = 4 | best 24 1 = 7 | best 48 0 = 0 | best 48 1 = 14");
        b.run(none + "hours 24 | best 1 1 = 4 | best 1 0 = 0");
        int above = 0;
        for (int seed = 0; seed < 60; seed++) {
            above += bestOfAll(seed) > 0 ? 1 : 0;
        }
        b.due("some were best with a RESERVE above 0", Math.min(above, 3), 3);
        b.sentence("what would be", "all stays");
        b.stays(none, "best 48 0", 0);
        b.stays(none, "best 48 1", 14);
        bad("best 0 0", "best 49 0", "best 1 -1", "best 1 2", "best 48 2", "best 49 1", "best 0 1");
        for (String v : OUTSIDE) {
            bad("best 1 " + v, "best " + v + " 1");
        }
        greatestReserveIsBest();
        bestAfterAlmostNone();
    }

    /** Checks best() against would() of each r: which is best. */
    private long bestOfAll(int seed) {
        String plan = "towns 4 | links 0 " + (1 + seed % 4) + " | back " + seed % 2 + " | load 1 9 | load 2 9 | load 3 9 | seed " + seed;
        int n = 1 + seed % 3;
        Routes routes = Routes.after(plan);
        long fewest = Long.MAX_VALUE;
        long which = -1;
        for (int r = 0; r <= 30; r++) {
            long refused = routes.ask("would " + n + " " + r);
            if (refused < fewest) {
                fewest = refused;
                which = r;
            }
        }
        b.due(plan + " | best " + n + " 0", routes.ask("best " + n + " 0"), which);
        b.due(plan + " | best " + n + " 1", routes.ask("best " + n + " 1"), fewest);
        return which;
    }

    /** The LINKS of 2 have 30 FREE wires: only a RESERVE of 30 keeps all off that do not go STRAIGHT, which is best by that X. */
    private void greatestReserveIsBest() {
        b.sentence("19 best", "The r (0 .. 30): the last one, too");
        String plan = "links 0 1 | link 0 1 0 0 | link 0 2 0 30 | link 2 1 0 30 | load 1 3 | load 2 3 | seed 222 | ";
        b.run(plan + "best 2 0 = 30 | best 2 1 = 1 | would 2 30 = 1 | would 2 29 = 3 | would 2 0 = 3");
        Routes routes = Routes.after(plan);
        for (int r = 0; r < 30; r++) {
            b.due(plan + "would 2 " + r + " is above 1", routes.ask("would 2 " + r) > 1 ? 1 : 0, 1);
        }
    }

    /** With BACK on a greater RESERVE may hand a call back to a better town: none is refused then, though few were with the lesser. */
    private void bestAfterAlmostNone() {
        b.sentence("19 best", "The r .. of the fewest REFUSED: none, behind an r of one");
        b.run("back 1 | link 0 1 0 3 | link 0 2 0 0 | link 0 3 0 1 | link 1 2 0 3 | link 1 3 0 0 | link 2 3 0 3 | load 1 2 | seed 519"
            + " | would 1 0 = 1 | would 1 1 = 0 | best 1 0 = 1 | best 1 1 = 0");
    }

    private void chokedAsTheyAre() {
        b.sentence("20 choked", "At how many ordered pairs of towns a CALL now would be REFUSED, were the STICKY towns as they are (what 0;"
            + " without handing back)");
        b.run("choked 0 = 0 | links 0 0 | choked 0 = 12 | towns 3 | links 0 0 | choked 0 = 6 | towns 6 | links 0 0 | choked 0 = 30");
        b.run("link 0 1 0 0 | choked 0 = 0 | link 2 1 0 0 | choked 0 = 4 | link 2 1 0 1 | choked 0 = 0 | link 2 1 1 1 | choked 0 = 2");
        b.run("link 0 1 0 0 | link 2 1 0 0 | back 1 | choked 0 = 4 | told 8 = 1 | all 3 = 0");
        b.run(TRIANGLE + "link 0 2 1 4 | choked 0 = 0 | link 0 2 1 5 | choked 0 = 2 | link 0 2 1 0 | link 0 2 0 0 | choked 0 = 4");
        b.sentence("20 choked", "now: by the wires that are FREE now");
        b.run("links 0 1 | choked 0 = 0 | call 0 1 9 | choked 0 = 0 | call 2 1 9 | choked 0 = 4 | hours 9 | choked 0 = 0");
        b.sentence("20 choked", "REFUSED, which is not FULL: with 80 CALLS going on it is by the wires, too");
        b.run(FULL_OF_CALLS + "told 6 = 80 | choked 0 = 0 | choked 1 = 0 | links 0 0 | choked 0 = 6 | choked 1 = 6");
        b.sentence("20 choked", "as they are: of each ordered pair its own");
        // 0 to 1 draws 3 at the third time; 1 to 0 keeps 2, which does not serve.
        b.run("links 0 0 | call 0 1 1 | call 0 1 1 | call 0 1 1 | sticky 0 1 = 3 | links 0 5 | link 0 1 0 0 | link 2 1 0 0 | sticky 1 0 = 2"
            + " | choked 0 = 3");
        b.stays(BUSY, "choked 0", Routes.after(BUSY).ask("choked 0"));
        b.stays("links 0 0", "choked 0", 12);
        bad("choked -1", "choked 2", "choked LOW", "choked HIGH");
    }

    private void chokedEachOtherOne() {
        b.sentence("20 choked", "were each other one tried (1)");
        b.run("choked 1 = 0 | links 0 0 | choked 1 = 12 | towns 3 | links 0 0 | choked 1 = 6 | towns 6 | links 0 0 | choked 1 = 30");
        b.run("link 0 1 0 0 | link 2 1 0 0 | choked 1 = 0 | link 3 1 0 0 | choked 1 = 6 | link 3 1 0 1 | choked 1 = 0 | link 3 1 1 1 | choked 1 = 4");
        b.run("link 0 1 0 0 | link 2 1 0 0 | link 0 3 0 0 | choked 1 = 2 | choked 0 = 6");
        b.run(TRIANGLE + "choked 1 = 0 | link 0 2 1 4 | choked 1 = 0 | link 0 2 1 5 | choked 1 = 2");
        b.sentence("20 choked", "each other one: the last of the towns, too");
        b.run("towns 6 | links 0 0 | link 0 5 0 1 | link 5 1 0 1 | choked 1 = 24 | choked 0 = 26 | link 5 1 0 0 | choked 1 = 28");
        b.run("towns 6 | links 0 0 | link 5 0 0 1 | link 0 4 0 1 | choked 1 = 24 | choked 0 = 24");
        b.stays("link 0 1 0 0 | link 2 1 0 0 | ", "choked 1", 0);
        b.stays("links 0 0", "choked 1", 12);
    }

    private void undo() {
        b.sentence("24 undo", "A STATE back: how many can be yet. NO: none");
        b.refused("", "undo", "NO");
        b.refused("text '+1;' | back 7 | ends 0 | ", "undo", "NO");
        b.refused("seed 1 | seed 2 | undo | undo | ", "undo", "NO");
        b.run("seed 1 = 1 | undo = 0 | undo = NO | told 1 = 1 | told 9 = 0");
        b.run(BUSY + "told 9 = 5 | undo = 4 | undo = 3 | undo = 2 | undo = 1 | undo = 0 | undo = NO | told 9 = 0 | told 7 = 0"
            + " | told 6 = 0 | told 5 = 1");
        b.run("towns 6 | links 0 9 | call 4 5 2 | towns 3 | undo = 3 | told 4 = 6 | of 4 5 2 = 8 | told 6 = 1 | undo = 2 | told 6 = 0 | undo = 1"
            + " | of 4 5 2 = 5 | undo = 0 | told 4 = 4");
        b.run(FULL_OF_CALLS + "hours 24 = 80 | told 6 = 0 | undo = 4 | told 6 = 80 | going 79 3 = 24 | call 0 1 1 = FULL | undo = 3 | told 6 = 79");
        b.sentence("24 undo", "not S: what was taken back is gone");
        b.run("seed 5 | undo = 0 | told 9 = 0 | undo = NO | told 8 = 1");
        b.run("seed 5 | seed 6 | undo = 1 | seed 7 | undo = 1 | told 8 = 5 | undo = 0 | told 8 = 1 | undo = NO");
        b.sentence("24 undo", "a call behind it goes on from the STATE gone back to, its row of CALLS, too");
        b.run("call 0 1 5 | call 1 2 6 | ends 0 | call 2 3 7 | undo | undo | going 0 3 = 5 | going 1 3 = 6 | going 2 3 = NONE | ends 1 = 1"
            + " | going 0 3 = 5 | undo | going 1 3 = 6");
    }

    private void told() {
        b.sentence("25 told", "How often refused: BAD (0), NO (1), FULL (2);"
            + " bytes of THE TEXT (3), n (4), BACK (5), CALLS that go on (6), HOURS gone by (7), X (8), STATES (9). BAD");
        b.run("towns 5 | back 1 | call 0 1 5 | call 0 2 5 | hours 3 | seed 78 | text 'abcd' | towns 9 | towns 9 | towns 9 | ends 7 | ends 7"
            + " | told 0 = 3 | told 1 = 2 | told 2 = 0 | told 3 = 4 | told 4 = 5 | told 5 = 1 | told 6 = 2 | told 7 = 3 | told 8 = 78 | told 9 = 5");
        b.run("text '" + "a".repeat(120) + "' | type 97 | type 97 | told 2 = 2 | told 3 = 120");
        b.stays(BUSY, "told 0", 0);
        b.stays(BUSY, "told 9", 5);
        bad("told -1", "told 10", "told LOW", "told HIGH");
        b.run("told 10 = BAD | told 0 = 1 | told -1 = BAD | told 0 = 2");
        b.sentence("25 told", "HOURS gone by (7): all, not those of the day");
        b.run("hours 48 | hours 48 | told 7 = 96 | text '+99;' | does | told 7 = 195");
        b.sentence("25 told", "BACK (5): on or off, not how often");
        b.run("link 0 1 0 0 | link 2 1 0 0 | back 1 | call 0 1 1 | call 0 1 1 | all 3 = 2 | told 5 = 1 | back 0 | told 5 = 0");
    }

    private void digest() {
        b.sentence("26 digest", "h = 2129; then h = 31 h + v for each v: told(0) to told(9); of LINKS a below b WIRES, RESERVE, FREE;"
            + " of ordered pairs STICKY, REFUSED; LOADS; of CALLS going(0) to going(3)");
        digestOf("");
        digestOf("towns 3");
        digestOf("towns 6");
        digestOf("towns 3 | link 0 2 0 7 | link 1 2 1 8 | load 0 1 | load 23 9 | ");
        digestOf(BUSY);
        digestOf(BUSY + "back 7 | ends 99 | ends 99 | towns 0 | ");
        digestOf("towns 6 | links 0 0 | call 5 4 1 | call 4 5 1 | call 0 1 1 | link 0 5 0 3 | call 0 5 24 | back 1 | ");
        digestOf("text '" + "z".repeat(120) + "' | type 5 | ");
        digestOf(FULL_OF_CALLS);
        digestOf(FULL_OF_CALLS + "link 0 1 0 3 | call 0 1 1 | ");
        b.sentence("26 digest", "nothing counts by it");
        b.stays("", "digest", new Routes().ask("digest"));
        b.stays(BUSY, "digest", Routes.after(BUSY).ask("digest"));
    }

    /** By the other calls, in numbers without an end, of which the last 64 bits are left (h wraps around). */
    private void digestOf(String before) {
        List<String> asks = new ArrayList<>();
        Routes asked = Routes.after(before);
        long n = asked.ask("told 4");
        long calls = asked.ask("told 6");
        for (int what = 0; what <= 9; what++) {
            asks.add("told " + what);
        }
        for (int a = 0; a < n; a++) {
            for (int t = a + 1; t < n; t++) {
                asks.add("of " + a + " " + t + " 0");
                asks.add("of " + a + " " + t + " 1");
                asks.add("of " + a + " " + t + " 2");
            }
        }
        for (int a = 0; a < n; a++) {
            for (int t = 0; t < n; t++) {
                if (a != t) {
                    asks.add("sticky " + a + " " + t);
                    asks.add("pair " + a + " " + t + " 4");
                }
            }
        }
        BigInteger h = mixed(BigInteger.valueOf(2129), before, asks);
        asks.clear();
        // What a load is is told by setting it: of an object of its own.
        for (int hour = 0; hour < 24; hour++) {
            asks.add("load " + hour + " 0");
        }
        h = mixed(h, before, asks);
        for (int k = 0; k < calls; k++) {
            asks.clear();
            for (int what = 0; what <= 3; what++) {
                asks.add("going " + k + " " + what);
            }
            h = mixed(h, before, asks);
        }
        b.due(before + "digest", asked.ask("digest"), h.longValue());
    }

    private static BigInteger mixed(BigInteger start, String before, List<String> asks) {
        Routes routes = Routes.after(before);
        BigInteger h = start;
        for (String ask : asks) {
            h = h.multiply(BigInteger.valueOf(31)).add(BigInteger.valueOf(routes.ask(ask)));
        }
        return h;
    }
}
