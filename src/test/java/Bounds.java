import java.util.Map;

/** Checks of one sentence of the document after the other; each wrong answer is told with its sentence. */
final class Bounds {
    private final Checks checks = new Checks();
    private String sentence = "";

    /** What is checked from now on: the promise (or the part of the Terms) and the words of the document, or what these come to in a case of their own. */
    void sentence(String promise, String words) {
        sentence = promise + ", \"" + words + "\"";
    }

    void end(String name) {
        checks.end(name);
    }

    void due(String what, long got, long want) {
        checks.due(sentence + ": " + what, got, want);
    }

    /** Calls of a new object, those with " = " and the answer that is due. */
    void run(String calls) {
        Routes routes = new Routes();
        StringBuilder made = new StringBuilder();
        for (String part : Routes.partsOf(calls)) {
            int at = part.lastIndexOf(" = ");
            String call = at < 0 ? part : part.substring(0, at);
            long got = routes.ask(call);
            made.append(made.length() == 0 ? "" : " | ").append(call);
            if (at >= 0) {
                due(made.toString(), got, Routes.number(part.substring(at + 3)));
            }
        }
    }

    /** The call is refused for that reason: it answers so, that is counted, and nothing else changes. */
    void refused(String before, String call, String why) {
        long reason = Routes.number(why);
        Routes without = Routes.after(before);
        Routes with = Routes.after(before);
        String what = before + " | " + call;
        due(what, with.ask(call), reason);
        for (int i = 0; i <= 2; i++) {
            long more = -2 - i == reason ? 1 : 0;
            due(what + ", then told " + i, with.ask("told " + i), without.ask("told " + i) + more);
        }
        same(what, without, with);
    }

    /** The call answers that, and nothing at all changes. */
    void stays(String before, String call, long answer) {
        Routes without = Routes.after(before);
        Routes with = Routes.after(before);
        String what = before + " | " + call;
        due(what, with.ask(call), answer);
        sameRefusals(what, without, with);
        same(what, without, with);
    }

    /** The call answers that and leaves one state to go back to, in which all is as before. */
    void leaves(String before, String call, long answer) {
        Routes without = Routes.after(before);
        Routes with = Routes.after(before);
        String what = before + " | " + call;
        long states = without.ask("told 9");
        due(what + ", fewer than 5 states before", Math.min(states, 4), states);
        due(what, with.ask(call), answer);
        due(what + ", then told 9", with.ask("told 9"), states + 1);
        sameRefusals(what, without, with);
        due(what + ", then undo", with.ask("undo"), states);
        same(what + " | undo", without, with);
    }

    /** The text has a fault there: does() tells it, nothing is done, and nothing counts. */
    void fault(String before, String text, int place) {
        Routes without = Routes.after(before);
        Routes with = Routes.after(before);
        without.tell(text);
        with.tell(text);
        String what = before + " | text '" + text + "' | does";
        due(what, with.ask("does"), -10 - place);
        sameRefusals(what, without, with);
        same(what, without, with);
    }

    /** The text has no fault: so many of its calls are not refused. */
    void does(String before, String text, long goes) {
        Routes routes = Routes.after(before);
        routes.tell(text);
        due(before + " | text '" + text + "' | does", routes.ask("does"), goes);
    }

    private void sameRefusals(String what, Routes without, Routes with) {
        for (int i = 0; i <= 2; i++) {
            due(what + ", then told " + i, with.ask("told " + i), without.ask("told " + i));
        }
    }

    private void same(String what, Routes without, Routes with) {
        Map<String, Long> was = without.view();
        Map<String, Long> is = with.view();
        due(what + ", answers seen", is.size(), was.size());
        for (Map.Entry<String, Long> seen : was.entrySet()) {
            due(what + ", then " + seen.getKey(), is.getOrDefault(seen.getKey(), Long.MIN_VALUE), seen.getValue());
        }
    }
}
