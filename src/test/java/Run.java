import java.util.ArrayList;
import java.util.List;

/**
 * A run of calls that holds to one sentence of the document. Each answer is looked at twice: on one object
 * that gets all the calls, questions and refused ones too, and on a new one that gets the done ones alone.
 * No object gets more than the 512 calls that the document promises.
 */
final class Run {
    private final String base;
    private String name;
    private final List<Call> calls = new ArrayList<>();
    private final Replay live = Replay.of(new ArrayList<>());

    /** part and sentence say what the run holds to. */
    Run(String part, String sentence) {
        Sentences.hold(part, sentence);
        base = part + ", \"" + sentence + "\": ";
        name = base;
    }

    /** Calls that are done; what they answer is not looked at. */
    Run make(String... texts) {
        for (String text : texts) {
            Call call = Call.of(text);
            calls.add(call);
            Replay w = Replay.of(calls);
            Check.due(name + text + ", status", w.ask(Replay.STATUS), 0);
            if (live.hasRoom(1)) {
                live.ask(call);
            }
        }
        return this;
    }

    /** A call that is done and answers so. */
    Run done(String text, int answer) {
        Call call = Call.of(text);
        lookAt(Replay.of(calls), call, answer, 0, "");
        lookAt(live, call, answer, 0, " (among all)");
        calls.add(call);
        return this;
    }

    /** A call that is done and answers so, and changes nothing. */
    Run keeps(String text, int answer) {
        List<Call> with = new ArrayList<>(calls);
        with.add(Call.of(text));
        Replay.compare(name, calls, with, true, text);
        return done(text, answer);
    }

    /** A question: it answers so, and leaves the STATUS. */
    Run asks(String text, int answer) {
        Call call = Call.of(text);
        Replay fresh = Replay.of(calls);
        lookAt(fresh, call, answer, Replay.of(calls).ask(Replay.STATUS), "");
        if (live.hasRoom(3)) {
            lookAt(live, call, answer, live.ask(Replay.STATUS), " (among all)");
        }
        return this;
    }

    /** A call that is refused: it answers -1, has this STATUS and changes nothing else. */
    Run refused(String text, int status) {
        Call call = Call.of(text);
        lookAt(Replay.of(calls), call, -1, status, "");
        lookAt(live, call, -1, status, " (among all)");
        List<Call> with = new ArrayList<>(calls);
        with.add(call);
        Replay.compare(name, calls, with, true, text);
        return this;
    }

    /** A new object with the calls so far and this one behind them, which leaves this STATUS; to be asked. */
    Behind behind(String text, int status) {
        Behind behind = new Behind(name + "behind " + text + ", ", Replay.of(calls));
        behind.w.ask(text);
        return behind.asks("status()", status);
    }

    /** Questions to one object, one behind the other. */
    static final class Behind {
        private final String name;
        private final Replay w;

        private Behind(String name, Replay w) {
            this.name = name;
            this.w = w;
        }

        Behind asks(String text, int answer) {
            Check.due(name + text, w.ask(text), answer);
            return this;
        }
    }

    /** A text that is taken as the LINES of a HAND. */
    Run lines(int hand, String text, int answer) {
        feed(text);
        return done("lines(" + hand + ")", answer);
    }

    /** A text with a FAULT: STATUS 3, its kind and place, and nothing changed but THE TAPE, which is empty. */
    Run fault(int hand, String text, int kind, int place) {
        feed(text);
        refusedTape("lines(" + hand + ")", (text.length() + 7) / 8);
        return asks("fault(0)", kind).asks("fault(1)", place).asks("count(6)", 0);
    }

    /** lines() of what the latest calls, so many of them, have fed, which has a FAULT. */
    Run refusedTape(String text, int feeds) {
        Call call = Call.of(text);
        lookAt(Replay.of(calls), call, -1, 3, "");
        lookAt(live, call, -1, 3, " (among all)");
        List<Call> without = new ArrayList<>(calls.subList(0, calls.size() - feeds));
        calls.add(call);
        Replay.compare(name, without, calls, false, text);
        return this;
    }

    /** A text comes onto THE TAPE; what goes wrong from then on is told with it. */
    Run feed(String text) {
        name = base + "behind \"" + text + "\": ";
        return make(Check.feeds(text).toArray(new String[0]));
    }

    private void lookAt(Replay w, Call call, int answer, int status, String how) {
        if (w.hasRoom(2)) {
            Check.due(name + call.text + how, w.ask(call), answer);
            Check.due(name + call.text + how + ", status", w.ask(Replay.STATUS), status);
        }
    }
}
