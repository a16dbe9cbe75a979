/** Runs of calls that a fixed row of numbers draws, told to the class and to the model alike. */
public final class ModelTest {
    private static final int RUNS = 400;
    private static final int CALLS = 512;

    private final Checks checks;
    private final int run;
    private final StickyRoutes routes = new StickyRoutes();
    private final Model model = new Model();
    private long drawn;
    private int made;

    private ModelTest(Checks checks, int run) {
        this.checks = checks;
        this.run = run;
        drawn = 7919L * run + 17;
    }

    public static void main(String[] args) {
        Checks checks = new Checks();
        for (int run = 0; run < RUNS && !checks.anyWrong(); run++) {
            new ModelTest(checks, run).go();
        }
        checks.end("ModelTest");
    }

    private int draw(int below) {
        drawn = drawn * 6364136223846793005L + 1442695040888963407L;
        return (int) ((drawn >>> 33) % below);
    }

    /** Mostly a number from least to most, now and then one at or beyond their edges. */
    private int number(int least, int most) {
        switch (draw(60)) {
            case 0: return least - 1;
            case 1: return most + 1;
            case 2: return draw(2) == 0 ? Integer.MIN_VALUE : Integer.MAX_VALUE;
            case 3: return least;
            case 4: return most;
            default: return least + draw(most - least + 1);
        }
    }

    private int town() {
        return number(0, model.w.n - 1);
    }

    private void due(String call, long got, long want) {
        made++;
        checks.due("run " + run + ", call " + made + ": " + call, got, want);
    }

    private void go() {
        if (run % 4 != 0) {
            int n = 3 + draw(4);
            due("towns", routes.towns(n), model.towns(n));
            int wires = run % 4 == 3 ? 30 : draw(4);
            due("links", routes.links(0, wires), model.links(0, wires));
        }
        if (run % 2 == 1) {
            due("back", routes.back(1), model.back(1));
        }
        for (int hour = 0; hour < 24 && run % 3 != 0; hour++) {
            int v = run % 4 == 3 ? 9 : draw(10);
            due("load", routes.load(hour, v), model.load(hour, v));
        }
        if (run % 4 == 3) {
            fill();
        }
        while (made < CALLS && !checks.anyWrong()) {
            step();
            if (made < CALLS && draw(4) == 0) {
                due("digest", routes.digest(), model.digest());
            }
        }
    }

    /** Comes to 80 calls that go on, where the wires are enough. */
    private void fill() {
        for (int i = 0; i < 90; i++) {
            int a = draw(model.w.n);
            int b = draw(model.w.n);
            due("call", routes.call(a, b, 24), model.call(a, b, 24));
        }
    }

    private void step() {
        switch (draw(8)) {
            case 0:
                sets();
                break;
            case 1:
            case 2:
                looks();
                break;
            case 3:
                if (draw(4) == 0) {
                    texts();
                }
                break;
            case 4:
                rares();
                break;
            default:
                calls();
                break;
        }
    }

    private void sets() {
        int a = town();
        int b = town();
        int what = number(0, 1);
        int v = draw(3) == 0 ? number(0, 30) : number(0, 4);
        switch (draw(8)) {
            case 0: due("links", routes.links(what, v), model.links(what, v)); break;
            case 1: due("back", routes.back(what), model.back(what)); break;
            case 2:
                int hour = number(0, 23);
                int load = number(0, 9);
                due("load", routes.load(hour, load), model.load(hour, load));
                break;
            case 3:
                int seed = number(0, 999999);
                due("seed", routes.seed(seed), model.seed(seed));
                break;
            case 4:
                if (draw(5) == 0) {
                    int n = number(3, 6);
                    due("towns", routes.towns(n), model.towns(n));
                }
                break;
            default: due("link", routes.link(a, b, what, v), model.link(a, b, what, v)); break;
        }
    }

    private void calls() {
        int a = town();
        int b = town();
        int h = number(1, 24);
        int n = draw(3) == 0 ? number(1, 48) : number(1, 3);
        int k = number(0, Math.max(0, model.w.calls.size()));
        switch (draw(10)) {
            case 0: due("hours " + n, routes.hours(n), model.hours(n)); break;
            case 1: due("ends " + k, routes.ends(k), model.ends(k)); break;
            default: due("call " + a + " " + b + " " + h, routes.call(a, b, h), model.call(a, b, h)); break;
        }
    }

    private void looks() {
        int a = town();
        int b = town();
        int k = number(0, Math.max(0, model.w.calls.size()));
        int of4 = number(0, 3);
        int of5 = number(0, 4);
        int of2 = number(0, 1);
        int of10 = number(0, 9);
        switch (draw(9)) {
            case 0: due("of", routes.of(a, b, of4), model.of(a, b, of4)); break;
            case 1: due("sticky", routes.sticky(a, b), model.sticky(a, b)); break;
            case 2: due("going", routes.going(k, of4), model.going(k, of4)); break;
            case 3: due("all", routes.all(of5), model.all(of5)); break;
            case 4: due("pair", routes.pair(a, b, of5), model.pair(a, b, of5)); break;
            case 5: due("worst", routes.worst(of4), model.worst(of4)); break;
            case 6: due("burden", routes.burden(), model.burden()); break;
            case 7: due("choked", routes.choked(of2), model.choked(of2)); break;
            default: due("told", routes.told(of10), model.told(of10)); break;
        }
    }

    private void rares() {
        int n = number(1, 48);
        int r = draw(2) == 0 ? number(0, 30) : number(0, 5);
        int what = number(0, 1);
        switch (draw(6)) {
            case 0: due("would", routes.would(n, r), model.would(n, r)); break;
            case 1:
                if (draw(6) == 0) {
                    due("best", routes.best(n, what), model.best(n, what));
                }
                break;
            case 2: due("undo", routes.undo(), model.undo()); break;
            case 3:
                int c = number(0, 127);
                due("type", routes.type(c), model.type(c));
                break;
            case 4: due("does", routes.does(), model.does()); break;
            default: due("clear", routes.clear(), model.clear()); break;
        }
    }

    private void texts() {
        if (draw(5) > 0) {
            due("clear", routes.clear(), model.clear());
        }
        StringBuilder text = new StringBuilder();
        for (int i = 1 + draw(6); i > 0; i--) {
            text.append(order());
        }
        if (draw(3) == 0) {
            text.setCharAt(draw(text.length()), (char) "0123456789;+wrpx z".charAt(draw(18)));
        }
        if (draw(8) == 0) {
            text.setLength(draw(text.length()));
        }
        for (int i = 0; i < text.length() && made < CALLS - 2; i++) {
            due("type", routes.type(text.charAt(i)), model.type(text.charAt(i)));
        }
        if (made < CALLS - 1) {
            due("does '" + model.text + "'", routes.does(), model.does());
            due("digest", routes.digest(), model.digest());
        }
    }

    private String blank() {
        return draw(6) == 0 ? " " : "";
    }

    private String order() {
        String pair = blank() + town(9) + blank() + town(9) + blank();
        switch (draw(7)) {
            case 0: return blank() + "+" + blank() + draw(draw(9) == 0 ? 120 : 12) + blank() + ";";
            case 1: return blank() + "w" + pair + draw(draw(2) == 0 ? 33 : 3) + ";" + blank();
            case 2: return "r" + pair + draw(draw(2) == 0 ? 33 : 3) + ";";
            case 3: return "p" + blank() + draw(25) + (draw(9) == 0 ? "" : " ") + draw(10) + blank() + ";";
            case 4: return "x" + blank() + draw(draw(9) == 0 ? 3 : 2) + ";";
            default: return pair + (draw(4) == 0 ? draw(26) : 1 + draw(24)) + blank() + ";";
        }
    }

    /** A town as a figure, seldom one too great. */
    private int town(int seldom) {
        return draw(seldom * 4) == 0 ? draw(10) : draw(model.w.n);
    }
}
