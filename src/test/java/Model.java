import java.util.ArrayDeque;
import java.util.ArrayList;
import java.util.Arrays;
import java.util.List;

/**
 * The document once more, as slow and as literal as can be: nothing is kept that can be counted
 * from the calls that go on, and each state is a whole copy.
 */
final class Model {
    static final int NONE = -1, BAD = -2, NO = -3, FULL = -4, REFUSED = -5;

    static final class World {
        int n;
        int back;
        long x = 1;
        int hours;
        int[][] wires;
        int[][] reserve;
        int[][] sticky;
        int[] loads = new int[24];
        int[][][] counts;
        List<int[]> calls = new ArrayList<>();

        World(int n) {
            this.n = n;
            wires = new int[n][n];
            reserve = new int[n][n];
            sticky = new int[n][n];
            counts = new int[5][n][n];
            for (int a = 0; a < n; a++) {
                for (int b = 0; b < n; b++) {
                    wires[a][b] = 5;
                    sticky[a][b] = others(a, b).get(0);
                }
            }
        }

        World copy() {
            World c = new World(n);
            c.back = back;
            c.x = x;
            c.hours = hours;
            c.loads = loads.clone();
            for (int a = 0; a < n; a++) {
                c.wires[a] = wires[a].clone();
                c.reserve[a] = reserve[a].clone();
                c.sticky[a] = sticky[a].clone();
                for (int w = 0; w < 5; w++) {
                    c.counts[w][a] = counts[w][a].clone();
                }
            }
            for (int[] call : calls) {
                c.calls.add(call.clone());
            }
            return c;
        }

        List<Integer> others(int a, int b) {
            List<Integer> list = new ArrayList<>();
            for (int t = 0; t < n; t++) {
                if (t != a && t != b) {
                    list.add(t);
                }
            }
            return list;
        }

        int held(int a, int b, boolean overOnly) {
            int held = 0;
            for (int[] c : calls) {
                List<int[]> used = new ArrayList<>();
                if (c[2] == NONE) {
                    if (!overOnly) {
                        used.add(new int[] {c[0], c[1]});
                    }
                } else {
                    used.add(new int[] {c[0], c[2]});
                    used.add(new int[] {c[2], c[1]});
                }
                for (int[] u : used) {
                    if ((u[0] == a && u[1] == b) || (u[0] == b && u[1] == a)) {
                        held++;
                    }
                }
            }
            return held;
        }

        int free(int a, int b) {
            return Math.max(0, wires[a][b] - held(a, b, false));
        }

        boolean more(int a, int b) {
            return free(a, b) > reserve[a][b];
        }

        long nextX() {
            x = (x * 1103515245L + 12345L) & 0x7fffffffL;
            return x;
        }

        void draw(int a, int b) {
            List<Integer> list = others(a, b);
            sticky[a][b] = list.get((int) (nextX() / 65536 % list.size()));
        }

        int refusedAll() {
            return sum(4);
        }

        int sum(int what) {
            int sum = 0;
            for (int[] row : counts[what]) {
                sum += Arrays.stream(row).sum();
            }
            return sum;
        }

        int go(int a, int b, int over, int h) {
            counts[over == NONE ? 1 : 2][a][b]++;
            calls.add(new int[] {a, b, over, h});
            return over;
        }

        int ask(int a, int b, int h) {
            counts[0][a][b]++;
            if (calls.size() == 80) {
                counts[4][a][b]++;
                return REFUSED;
            }
            if (free(a, b) > 0) {
                return go(a, b, NONE, h);
            }
            int t = sticky[a][b];
            if (more(a, t) && more(t, b)) {
                return go(a, b, t, h);
            }
            if (more(a, t) && back == 1) {
                counts[3][a][b]++;
                draw(a, b);
                t = sticky[a][b];
                if (more(a, t) && more(t, b)) {
                    return go(a, b, t, h);
                }
            }
            counts[4][a][b]++;
            draw(a, b);
            return REFUSED;
        }

        int pass(int n) {
            int ended = 0;
            for (int i = 0; i < n; i++) {
                for (int[] c : calls) {
                    c[3]--;
                }
                int before = calls.size();
                calls.removeIf(c -> c[3] == 0);
                ended += before - calls.size();
                hours++;
                for (int j = 0; j < loads[hours % 24]; j++) {
                    planned();
                }
            }
            return ended;
        }

        void planned() {
            long v = nextX();
            int a = (int) (v / 65536 % n);
            int b = (int) (v / 1024 % n);
            if (a == b) {
                b = b == n - 1 ? 0 : b + 1;
            }
            ask(a, b, (int) (1 + v / 4096 % 6));
        }
    }

    World w = new World(4);
    final ArrayDeque<World> states = new ArrayDeque<>();
    final int[] refusals = new int[3];
    final StringBuilder text = new StringBuilder();

    private int refuse(int why) {
        refusals[-why - 2]++;
        return why;
    }

    private void keep() {
        states.addLast(w.copy());
        if (states.size() > 5) {
            states.removeFirst();
        }
    }

    private static boolean in(int v, int low, int high) {
        return low <= v && v <= high;
    }

    private boolean pairOk(int a, int b) {
        return in(a, 0, w.n - 1) && in(b, 0, w.n - 1) && a != b;
    }

    int towns(int v) {
        if (!in(v, 3, 6)) {
            return refuse(BAD);
        }
        keep();
        int was = w.n;
        w = new World(v);
        return was;
    }

    int link(int a, int b, int what, int v) {
        if (!pairOk(a, b) || !in(what, 0, 1) || !in(v, 0, 30)) {
            return refuse(BAD);
        }
        keep();
        int[][] rows = what == 0 ? w.wires : w.reserve;
        int was = rows[a][b];
        rows[a][b] = v;
        rows[b][a] = v;
        return was;
    }

    int links(int what, int v) {
        if (!in(what, 0, 1) || !in(v, 0, 30)) {
            return refuse(BAD);
        }
        keep();
        for (int[] row : what == 0 ? w.wires : w.reserve) {
            Arrays.fill(row, v);
        }
        return new int[] {0, 0, 0, 3, 6, 10, 15}[w.n];
    }

    int back(int on) {
        if (!in(on, 0, 1)) {
            return refuse(BAD);
        }
        keep();
        int was = w.back;
        w.back = on;
        return was;
    }

    int load(int hour, int v) {
        if (!in(hour, 0, 23) || !in(v, 0, 9)) {
            return refuse(BAD);
        }
        keep();
        int was = w.loads[hour];
        w.loads[hour] = v;
        return was;
    }

    int seed(int v) {
        if (!in(v, 0, 999999)) {
            return refuse(BAD);
        }
        keep();
        w.x = v;
        return 1;
    }

    int of(int a, int b, int what) {
        if (!pairOk(a, b) || !in(what, 0, 3)) {
            return refuse(BAD);
        }
        return new int[] {w.wires[a][b], w.reserve[a][b], w.free(a, b), w.held(a, b, true)}[what];
    }

    int sticky(int a, int b) {
        return pairOk(a, b) ? w.sticky[a][b] : refuse(BAD);
    }

    int call(int a, int b, int h) {
        if (!pairOk(a, b) || !in(h, 1, 24)) {
            return refuse(BAD);
        }
        if (w.calls.size() == 80) {
            return refuse(FULL);
        }
        keep();
        return w.ask(a, b, h);
    }

    int hours(int n) {
        if (!in(n, 1, 48)) {
            return refuse(BAD);
        }
        keep();
        return w.pass(n);
    }

    int going(int k, int what) {
        if (k < 0 || !in(what, 0, 3)) {
            return refuse(BAD);
        }
        return k < w.calls.size() ? w.calls.get(k)[what] : NONE;
    }

    int ends(int k) {
        if (k < 0) {
            return refuse(BAD);
        }
        if (k >= w.calls.size()) {
            return refuse(NO);
        }
        keep();
        w.calls.remove(k);
        return w.calls.size();
    }

    int all(int what) {
        return in(what, 0, 4) ? w.sum(what) : refuse(BAD);
    }

    int pair(int a, int b, int what) {
        return pairOk(a, b) && in(what, 0, 4) ? w.counts[what][a][b] : refuse(BAD);
    }

    int worst(int what) {
        if (!in(what, 0, 3)) {
            return refuse(BAD);
        }
        int most = -1;
        int mostAt = 0;
        int fewest = 99;
        int fewestAt = 0;
        for (int a = 0; a < w.n; a++) {
            for (int b = 0; b < w.n; b++) {
                if (a != b && w.counts[4][a][b] > most) {
                    most = w.counts[4][a][b];
                    mostAt = 10 * a + b;
                }
                if (a < b && w.free(a, b) < fewest) {
                    fewest = w.free(a, b);
                    fewestAt = 10 * a + b;
                }
            }
        }
        return new int[] {mostAt, most, fewestAt, fewest}[what];
    }

    int burden() {
        int held = 0;
        for (int[] c : w.calls) {
            held += c[2] == NONE ? 1 : 2;
        }
        return w.calls.isEmpty() ? 0 : held * 1000 / w.calls.size();
    }

    int would(int n, int r) {
        if (!in(n, 1, 48) || !in(r, 0, 30)) {
            return refuse(BAD);
        }
        World c = w.copy();
        for (int[] row : c.reserve) {
            Arrays.fill(row, r);
        }
        c.pass(n);
        return c.refusedAll() - w.refusedAll();
    }

    int best(int n, int what) {
        if (!in(n, 1, 48) || !in(what, 0, 1)) {
            return refuse(BAD);
        }
        int[] refused = new int[31];
        for (int r = 0; r <= 30; r++) {
            refused[r] = would(n, r);
        }
        int fewest = Arrays.stream(refused).min().getAsInt();
        int at = 0;
        while (refused[at] != fewest) {
            at++;
        }
        return what == 0 ? at : fewest;
    }

    int choked(int what) {
        if (!in(what, 0, 1)) {
            return refuse(BAD);
        }
        int choked = 0;
        for (int a = 0; a < w.n; a++) {
            for (int b = 0; b < w.n; b++) {
                if (a == b) {
                    continue;
                }
                boolean goes = w.free(a, b) > 0;
                for (int t : what == 0 ? List.of(w.sticky[a][b]) : w.others(a, b)) {
                    goes |= w.more(a, t) && w.more(t, b);
                }
                choked += goes ? 0 : 1;
            }
        }
        return choked;
    }

    int type(int c) {
        if (!in(c, 0, 127)) {
            return refuse(BAD);
        }
        if (text.length() == 120) {
            return refuse(FULL);
        }
        text.append((char) c);
        return text.length();
    }

    int clear() {
        int had = text.length();
        text.setLength(0);
        return had;
    }

    /** A part that an order may have, as a letter: T town, U another town, F 0 or 1; else a number up to most. */
    private static String partsOf(char c) {
        switch (c) {
            case '+': return "N";
            case 'w':
            case 'r': return "TUK";
            case 'p': return "HL";
            case 'x': return "F";
            default: return "0123456789".indexOf(c) >= 0 ? "TUC" : null;
        }
    }

    private static int[] rangeOf(char part) {
        switch (part) {
            case 'N': return new int[] {0, 99};
            case 'K': return new int[] {0, 30};
            case 'H': return new int[] {0, 23};
            case 'L': return new int[] {0, 9};
            default: return new int[] {1, 24};
        }
    }

    private int afterBlanks(int at) {
        while (at < text.length() && text.charAt(at) == ' ') {
            at++;
        }
        return at;
    }

    private static boolean figure(char c) {
        return Character.isDigit(c);
    }

    /** The orders of the text into the list; the fault, or NONE. */
    int parse(List<int[]> orders) {
        int at = afterBlanks(0);
        do {
            if (at == text.length()) {
                return at;
            }
            char first = text.charAt(at);
            String parts = partsOf(first);
            if (parts == null) {
                return at;
            }
            if (!figure(first)) {
                at++;
            }
            int[] order = {figure(first) ? 'c' : first, 0, 0, 0};
            for (int i = 0; i < parts.length(); i++) {
                at = afterBlanks(at);
                int end = at;
                while (end < text.length() && figure(text.charAt(end))) {
                    end++;
                }
                if (end == at) {
                    return at;
                }
                char part = parts.charAt(i);
                if ("TUF".indexOf(part) >= 0) {
                    end = at + 1;
                }
                int v = end - at > 2 ? -1 : Integer.parseInt(text.substring(at, end));
                boolean good;
                if (part == 'T') {
                    good = v < w.n;
                } else if (part == 'U') {
                    good = v < w.n && v != order[1];
                } else if (part == 'F') {
                    good = v < 2;
                } else {
                    good = in(v, rangeOf(part)[0], rangeOf(part)[1]);
                }
                if (!good) {
                    return at;
                }
                order[1 + i] = v;
                at = end;
            }
            at = afterBlanks(at);
            if (at == text.length() || text.charAt(at) != ';') {
                return at;
            }
            orders.add(order);
            at = afterBlanks(at + 1);
        } while (at < text.length());
        return NONE;
    }

    int does() {
        List<int[]> orders = new ArrayList<>();
        int fault = parse(orders);
        if (fault != NONE) {
            return -10 - fault;
        }
        keep();
        int gone = 0;
        for (int[] o : orders) {
            switch (o[0]) {
                case 'c': gone += w.ask(o[1], o[2], o[3]) == REFUSED ? 0 : 1; break;
                case '+': w.pass(o[1]); break;
                case 'w': w.wires[o[1]][o[2]] = w.wires[o[2]][o[1]] = o[3]; break;
                case 'r': w.reserve[o[1]][o[2]] = w.reserve[o[2]][o[1]] = o[3]; break;
                case 'p': w.loads[o[1]] = o[2]; break;
                default: w.back = o[1]; break;
            }
        }
        return gone;
    }

    int undo() {
        if (states.isEmpty()) {
            return refuse(NO);
        }
        w = states.removeLast();
        return states.size();
    }

    int told(int what) {
        if (!in(what, 0, 9)) {
            return refuse(BAD);
        }
        return new int[] {refusals[0], refusals[1], refusals[2], text.length(), w.n, w.back, w.calls.size(),
            w.hours, (int) w.x, states.size()}[what];
    }

    long digest() {
        List<Integer> vs = new ArrayList<>();
        for (int i = 0; i <= 9; i++) {
            vs.add(told(i));
        }
        for (int a = 0; a < w.n; a++) {
            for (int b = a + 1; b < w.n; b++) {
                vs.addAll(List.of(w.wires[a][b], w.reserve[a][b], w.free(a, b)));
            }
        }
        for (int a = 0; a < w.n; a++) {
            for (int b = 0; b < w.n; b++) {
                if (a != b) {
                    vs.addAll(List.of(w.sticky[a][b], w.counts[4][a][b]));
                }
            }
        }
        for (int l : w.loads) {
            vs.add(l);
        }
        for (int[] c : w.calls) {
            vs.addAll(List.of(c[0], c[1], c[2], c[3]));
        }
        long h = 2129;
        for (int v : vs) {
            h = 31 * h + v;
        }
        return h;
    }
}
