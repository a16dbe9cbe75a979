import java.util.ArrayList;
import java.util.LinkedHashMap;
import java.util.List;
import java.util.Map;
import java.util.StringTokenizer;

/**
 * An object of the class that is told its calls in words: "link 0 1 0 30" is link(0, 1, 0, 30), and
 * "text '+1;'" is clear() and a type(..) for each byte. Calls one behind the other are parted by |.
 */
final class Routes {
    /** What later calls answer is free, so no test may lean on it. */
    private static final int MOST_CALLS = 512;
    private static final int MOST_STATES = 5;

    private final StickyRoutes routes = new StickyRoutes();
    private int made;

    static Routes after(String calls) {
        Routes r = new Routes();
        for (String call : partsOf(calls)) {
            r.ask(call);
        }
        return r;
    }

    static List<String> partsOf(String calls) {
        List<String> parts = new ArrayList<>();
        StringTokenizer all = new StringTokenizer(calls, "|");
        while (all.hasMoreTokens()) {
            String part = all.nextToken().trim();
            if (!part.isEmpty()) {
                parts.add(part);
            }
        }
        return parts;
    }

    static String times(int n, String calls) {
        return (calls + " | ").repeat(n);
    }

    static long number(String word) {
        switch (word) {
            case "NONE": return -1;
            case "BAD": return -2;
            case "NO": return -3;
            case "FULL": return -4;
            case "REFUSED": return -5;
            case "LOW": return Integer.MIN_VALUE;
            case "HIGH": return Integer.MAX_VALUE;
            default: return Long.parseLong(word);
        }
    }

    long ask(String call) {
        if (call.startsWith("text ")) {
            return tell(call.substring(call.indexOf('\'') + 1, call.lastIndexOf('\'')));
        }
        StringTokenizer words = new StringTokenizer(call);
        String name = words.nextToken();
        int[] v = new int[words.countTokens()];
        for (int i = 0; i < v.length; i++) {
            v[i] = (int) number(words.nextToken());
        }
        countCall();
        return make(name, v);
    }

    /** The text is this one from now on: how many bytes it has. */
    long tell(String text) {
        long length = 0;
        ask("clear");
        for (int i = 0; i < text.length(); i++) {
            countCall();
            length = routes.type(text.charAt(i));
        }
        return length;
    }

    private void countCall() {
        made++;
        if (made > MOST_CALLS) {
            throw new IllegalStateException("a test makes more than " + MOST_CALLS + " calls of one object");
        }
    }

    private long make(String name, int[] v) {
        switch (name) {
            case "towns": return routes.towns(v[0]);
            case "link": return routes.link(v[0], v[1], v[2], v[3]);
            case "links": return routes.links(v[0], v[1]);
            case "back": return routes.back(v[0]);
            case "load": return routes.load(v[0], v[1]);
            case "seed": return routes.seed(v[0]);
            case "of": return routes.of(v[0], v[1], v[2]);
            case "sticky": return routes.sticky(v[0], v[1]);
            case "call": return routes.call(v[0], v[1], v[2]);
            case "hours": return routes.hours(v[0]);
            case "going": return routes.going(v[0], v[1]);
            case "ends": return routes.ends(v[0]);
            case "all": return routes.all(v[0]);
            case "pair": return routes.pair(v[0], v[1], v[2]);
            case "worst": return routes.worst(v[0]);
            case "burden": return routes.burden();
            case "would": return routes.would(v[0], v[1]);
            case "best": return routes.best(v[0], v[1]);
            case "choked": return routes.choked(v[0]);
            case "type": return routes.type(v[0]);
            case "clear": return routes.clear();
            case "does": return routes.does();
            case "undo": return routes.undo();
            case "told": return routes.told(v[0]);
            case "digest": return routes.digest();
            default: throw new IllegalArgumentException("no call of that name: " + name);
        }
    }

    /**
     * All that can be seen, but for how often was refused: what is now, what each state that can be gone back
     * to was, and what the text does then. The object is used up by it.
     */
    Map<String, Long> view() {
        Map<String, Long> view = new LinkedHashMap<>();
        seeAll(view);
        for (int i = 1; i <= MOST_STATES + 1; i++) {
            view.put("undo, time " + i, ask("undo"));
            seeMost(view, "after undo " + i + ": ");
        }
        view.put("does", ask("does"));
        seeMost(view, "after does: ");
        return view;
    }

    private void seeAll(Map<String, Long> view) {
        see(view, "", "told 3", "told 4", "told 5", "told 6", "told 7", "told 8", "told 9");
        long n = ask("told 4");
        for (int a = 0; a < n; a++) {
            for (int b = 0; b < n; b++) {
                String pair = a + " " + b;
                if (a != b) {
                    see(view, "", "sticky " + pair);
                    see(view, "", "pair " + pair + " 0", "pair " + pair + " 1", "pair " + pair + " 2", "pair " + pair + " 3",
                        "pair " + pair + " 4");
                }
                if (a < b) {
                    see(view, "", "of " + pair + " 0", "of " + pair + " 1", "of " + pair + " 2", "of " + pair + " 3");
                }
            }
        }
        seeMost(view, "");
    }

    private void seeMost(Map<String, Long> view, String when) {
        see(view, when, "all 0", "all 1", "all 2", "all 3", "all 4");
        view.put(when + "digest", digestWithoutRefusals());
    }

    private void see(Map<String, Long> view, String when, String... calls) {
        for (String call : calls) {
            view.put(when + call, ask(call));
        }
    }

    /** The first three numbers that digest() mixes in are how often was refused: these are taken out again. */
    private long digestWithoutRefusals() {
        long n = ask("told 4");
        long behind = 7 + 3 * n * (n - 1) / 2 + 2 * n * (n - 1) + 24 + 4 * ask("told 6");
        long weight = 1;
        for (int i = 0; i < behind; i++) {
            weight *= 31;
        }
        long refusals = (ask("told 0") * 31 + ask("told 1")) * 31 + ask("told 2");
        return ask("digest") - refusals * weight;
    }
}
