import java.util.ArrayList;
import java.util.Arrays;
import java.util.List;

/**
 * Calls that are made on a new vault whenever one is asked for. So each edge is tried on a vault of
 * its own, and all that a vault tells can be asked although an object is used for 512 calls only.
 */
final class Run {
    static final int MOST_CALLS = 512;
    private static final int CALLS_TO_ASK = 14;
    private final List<Call> calls = new ArrayList<>();
    private State state;

    Run(String... calls) {
        add(calls);
    }

    private void add(String... more) {
        for (String text : more) {
            calls.add(new Call(text));
        }
    }

    Run then(String... more) {
        return times(1, more);
    }

    Run times(int n, String... more) {
        Run longer = new Run();
        longer.calls.addAll(calls);
        for (int i = 0; i < n; i++) {
            longer.add(more);
        }
        return longer;
    }

    int length() {
        return calls.size();
    }

    DrawingVault vault() {
        if (calls.size() > MOST_CALLS - CALLS_TO_ASK) {
            throw new AssertionError("a run of " + calls.size() + " calls leaves too few to ask");
        }
        DrawingVault vault = new DrawingVault();
        for (Call call : calls) {
            call.on(vault);
        }
        return vault;
    }

    int ask(String call) {
        return new Call(call).on(vault());
    }

    // ---- what is due of one call more ----

    /** The mark % in a call stands for each of the values. */
    private static List<String> filled(String call, int... values) {
        List<String> all = new ArrayList<>();
        for (int value : values) {
            all.add(call.replace("%", Integer.toString(value)));
        }
        return values.length == 0 ? Arrays.asList(call) : all;
    }

    void answers(int want, String call, int... values) {
        for (String one : filled(call, values)) {
            Checks.due(one, ask(one), want);
        }
    }

    /** It is not refused: true, or the answer that is told. */
    Run does(String call) {
        return does(1, call);
    }

    Run does(int want, String call) {
        DrawingVault vault = vault();
        Checks.due(call, new Call(call).on(vault), want);
        Checks.due(call + ", why()", vault.why(), 0);
        return then(call);
    }

    /** It is refused by that reason, and nothing has changed. */
    void refuses(int reason, String call, int... values) {
        for (String one : filled(call, values)) {
            DrawingVault vault = vault();
            Call it = new Call(one);
            Checks.due(one, it.on(vault), it.refusal());
            Checks.due(one + ", why()", vault.why(), reason);
            state().same(one, then(one).state());
        }
    }

    /** It throws, and nothing has changed. */
    void hasNone(String call, int... values) {
        for (String one : filled(call, values)) {
            throwsSo(one, Checks.INDEX);
        }
    }

    /** It throws as the power has failed, and nothing has changed. */
    void hasNoPower(String call, int... values) {
        Checks.due("power has failed", ask("count(7)"), 1);
        for (String one : filled(call, values)) {
            throwsSo(one, Checks.STATE);
        }
    }

    /** The power fails by it: it throws, and nothing else has changed. */
    Run failsBy(String call) {
        Run failed = then(call);
        Checks.due("power before " + call, ask("count(7)"), 0);
        Checks.due("power behind " + call, failed.ask("count(7)"), 1);
        Checks.due(call, ask(call), Checks.STATE);
        Checks.due(call + ", why()", failed.ask("why()"), ask("why()"));
        state().sameBesidePower(call, failed.state());
        return failed;
    }

    private void throwsSo(String call, int exception) {
        DrawingVault vault = vault();
        int why = vault.why();
        Checks.due(call, new Call(call).on(vault), exception);
        Checks.due(call + ", why()", vault.why(), why);
        state().same(call, then(call).state());
    }

    State state() {
        if (state == null) {
            state = new State(this);
        }
        return state;
    }
}
