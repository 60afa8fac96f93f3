import java.util.ArrayList;
import java.util.List;

/**
 * A run of calls on a new object, each with the answer that is due. Behind each call that is refused
 * two more objects are made: one has had the refused call, the other has not; they must tell the same.
 */
final class Run {
    /** What a later call than that answers is free. */
    private static final int CALLS_MOST = 512;

    private final Due due;
    private final String name;
    private final SkyLights lights = new SkyLights();
    private final List<String> taken = new ArrayList<>();
    private int calls = 0;
    private int takenCalls = 0;

    Run(Due due, String name) {
        this.due = due;
        this.name = name;
    }

    /** A call that is taken, or that only asks. */
    Run is(String call, int want) {
        ask(call, want);
        taken.add(call);
        takenCalls += Calls.many(call);
        return this;
    }

    /** A call that is refused: it changes nothing. */
    Run refuses(String call, int want) {
        ask(call, want);
        List<String> with = answers(call);
        List<String> without = answers(null);
        due.is(name + ": answers behind the refused " + call, with.size(), without.size());
        for (int i = 0; i < Math.min(with.size(), without.size()); i++) {
            if (!with.get(i).equals(without.get(i))) {
                due.is(name + ": behind the refused " + call + ": " + with.get(i) + ", without it "
                        + without.get(i) + ": changed", 1, 0);
            }
        }
        return this;
    }

    /** One refusal of several calls. */
    Run refusesAll(int want, String... some) {
        for (String call : some) {
            refuses(call, want);
        }
        return this;
    }

    private void ask(String call, int want) {
        due.is(name + ": " + call, Calls.ask(lights, call), want);
        calls += Calls.many(call);
        within(calls);
    }

    private List<String> answers(String refused) {
        SkyLights other = new SkyLights();
        for (String call : taken) {
            Calls.ask(other, call);
        }
        if (refused != null) {
            Calls.ask(other, refused);
        }
        List<String> answers = Answers.of(other);
        within(takenCalls + 1 + answers.size());
        return answers;
    }

    private void within(int many) {
        if (many > CALLS_MOST) {
            throw new IllegalStateException(name + ": " + many + " calls of one object");
        }
    }
}
