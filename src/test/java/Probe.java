import java.util.ArrayList;
import java.util.Arrays;
import java.util.List;
import java.util.function.Supplier;
import java.util.function.ToLongFunction;

/**
 * All that can be seen of an object, as a row of answers, so that it can be held against its twin's.
 * The last of what is asked changes the object: it is of no use behind it.
 */
final class Probe {
    private final YarnPlier x;
    private final List<Long> answers = new ArrayList<>();

    private Probe(YarnPlier x) {
        this.x = x;
    }

    static List<Long> of(YarnPlier x) {
        Probe probe = new Probe(x);
        probe.askBench();
        probe.askRows();
        probe.goBack();
        probe.useBundle();
        probe.readTape();
        probe.moveTwists();
        probe.ask(x.undo());
        probe.askBench();
        return probe.answers;
    }

    /** The call is refused so, and the object is behind it as its twin without the call. */
    static void refused(Due due, String what, Supplier<YarnPlier> scene, ToLongFunction<YarnPlier> call, long refusal) {
        YarnPlier x = scene.get();
        due.is(what, call.applyAsLong(x), refusal);
        same(due, what, x, scene.get());
    }

    static void same(Due due, String what, YarnPlier x, YarnPlier twin) {
        List<Long> seen = of(x);
        List<Long> wanted = of(twin);
        int i = 0;
        while (i < seen.size() && i < wanted.size() && seen.get(i).equals(wanted.get(i))) {
            i++;
        }
        due.holds(what + ": nothing changes (answer " + i + " of the probe)", seen.equals(wanted));
    }

    private void ask(long... some) {
        Arrays.stream(some).forEach(answers::add);
    }

    private void askBench() {
        for (int what = 0; what <= 6; what++) {
            ask(x.count(what));
        }
        for (int i = 0; i < 4; i++) {
            ask(x.tally(i));
        }
        for (int yarn = 0; yarn < x.count(0); yarn++) {
            int parts = x.of(yarn, 4);
            ask(x.of(yarn, 0), x.of(yarn, 1), x.of(yarn, 2), x.of(yarn, 3), parts);
            for (int i = 0; i < parts; i++) {
                ask(x.partOf(yarn, i));
            }
        }
        for (int i = 0; i < x.count(3); i++) {
            ask(x.jobOf(i, 0), x.jobOf(i, 1));
        }
        askSkews();
    }

    private void askSkews() {
        for (int k = 0; k <= x.count(2); k++) {
            ask(x.skew(k));
        }
    }

    private void askRows() {
        for (int row = 0; row < 3; row++) {
            // -11 of a missing one, -13 of one without places
            ask(x.put(row, -1, 0));
            for (int i = 0; i < 40 && x.get(row, i) != YarnPlier.VOID; i++) {
                ask(x.get(row, i));
            }
        }
    }

    private void goBack() {
        for (int i = 0; i <= 10; i++) {
            ask(x.back());
        }
        for (int yarn = 0; yarn < x.count(0); yarn++) {
            ask(x.of(yarn, 0), x.of(yarn, 3));
        }
    }

    private void useBundle() {
        int yarn = x.ply(7);
        ask(yarn);
        for (int i = 0; yarn >= 0 && i < 4; i++) {
            ask(x.partOf(yarn, i));
        }
    }

    private void readTape() {
        ask(x.read());
        for (int yarn = 0; yarn < x.count(0); yarn++) {
            ask(x.of(yarn, 3));
        }
    }

    /** By other twists layers that skewed alike do so no more. */
    private void moveTwists() {
        for (int yarn = 0; yarn < x.count(0); yarn++) {
            x.set(0, yarn, 11 * yarn - 40);
        }
        askSkews();
    }
}
