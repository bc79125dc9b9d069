import java.util.stream.IntStream;

/**
 * Each number that a call takes: the least and the greatest of its range are taken; what is beyond them,
 * by 1, by each power of 2 (what an int or an index wraps around to) or as far as ints go, is refused, and changes nothing.
 */
public final class RangesTest {
    private static final Due due = new Due();

    private interface Call {
        long on(YarnPlier x, int v);
    }

    private static IntStream near(int least, int most) {
        IntStream.Builder some = IntStream.builder();
        for (int power = 0; power < 32; power++) {
            int far = 1 << power;
            some.add(least - far).add(least + far).add(most - far).add(most + far);
        }
        return some.add(Scenes.MIN).add(Scenes.MIN + 1).add(Scenes.MAX - 1).add(Scenes.MAX).build().distinct();
    }

    private static void takes(String call, long refusal, Call c, int... edges) {
        for (int v : edges) {
            due.holds(call + " takes " + v, c.on(Scenes.busy(), v) != refusal);
        }
    }

    private static void refuses(String call, long refusal, Call c, int[] beyond) {
        YarnPlier x = Scenes.busy();
        for (int v : beyond) {
            due.is(call + " by " + v, c.on(x, v), refusal);
        }
        Probe.same(due, call, x, Scenes.busy());
    }

    private static void range(String call, int least, int most, long refusal, Call c) {
        takes(call, refusal, c, least, most);
        refuses(call, refusal, c, near(least, most).filter(v -> v < least || v > most).toArray());
    }

    private static void notBelow(String call, int least, long refusal, Call c) {
        takes(call, refusal, c, least);
        refuses(call, refusal, c, near(least, least).filter(v -> v < least).toArray());
    }

    private static void notAbove(String call, int most, long refusal, Call c) {
        takes(call, refusal, c, most);
        refuses(call, refusal, c, near(most, most).filter(v -> v > most).toArray());
    }

    private static void yarns() {
        due.part("promises 2 to 8");
        range("thread(v, 1, 0)", 0, 3, -1, (x, v) -> x.thread(v, 1, 0));
        range("thread(0, v, 0)", 1, 99, -1, (x, v) -> x.thread(0, v, 0));
        range("thread(0, 1, v)", -99, 99, -1, (x, v) -> x.thread(0, 1, v));
        range("part(v)", 0, 5, -1, (x, v) -> x.part(v));
        range("ply(v)", -99, 99, -1, (x, v) -> x.ply(v));
        range("set(v, 0, 1)", 0, 3, Scenes.VOID, (x, v) -> x.set(v, 0, 1));
        range("set(0, v, 1)", 0, 5, Scenes.VOID, (x, v) -> x.set(0, v, 1));
        range("set(0, 3, v)", -99, 99, Scenes.VOID, (x, v) -> x.set(0, 3, v));
        range("set(1, 0, v)", 1, 99, Scenes.VOID, (x, v) -> x.set(1, 0, v));
        range("set(2, 0, v)", 0, 3, Scenes.VOID, (x, v) -> x.set(2, 0, v));
        range("set(3, 0, v)", 0, 99999, Scenes.VOID, (x, v) -> x.set(3, 0, v));
        range("set(3, 5, v)", 0, 99999, Scenes.VOID, (x, v) -> x.set(3, 5, v));
        range("of(v, 0)", 0, 5, Scenes.VOID, (x, v) -> x.of(v, 0));
        range("of(0, v)", 0, 7, Scenes.VOID, (x, v) -> x.of(0, v));
        range("partOf(v, 0)", 0, 5, -1, (x, v) -> x.partOf(v, 0));
        notBelow("partOf(3, v)", 0, -1, (x, v) -> x.partOf(3, v));
        notAbove("partOf(3, v)", 2, -2, (x, v) -> x.partOf(3, v));
    }

    private static void leaves() {
        due.part("promises 9 to 14");
        range("leaf(v, 0, 0)", 0, 5, Scenes.VOID, (x, v) -> x.leaf(v, 0, 0));
        range("leaf(5, v, 1)", 0, 5, Scenes.VOID, (x, v) -> x.leaf(5, v, 1));
        range("leaf(0, v, 0)", 0, 0, Scenes.VOID, (x, v) -> x.leaf(0, v, 0));
        range("leaf(5, 0, v)", 0, 1, Scenes.VOID, (x, v) -> x.leaf(5, 0, v));
        range("torque(v)", 0, 5, Scenes.VOID, (x, v) -> x.torque(v));
        range("tally(v)", 0, 3, -1, (x, v) -> x.tally(v));
        range("kept(v, 0, 0)", 0, 5, Scenes.VOID, (x, v) -> x.kept(v, 0, 0));
        range("kept(5, v, 1)", 0, 5, Scenes.VOID, (x, v) -> x.kept(5, v, 1));
        range("kept(5, 0, v)", 0, 1, Scenes.VOID, (x, v) -> x.kept(5, 0, v));
        range("needs(v, 0, 1)", 0, 5, -1, (x, v) -> x.needs(v, 0, 1));
        range("needs(5, v, 1)", 0, 5, -1, (x, v) -> x.needs(5, v, 1));
        range("needs(5, 5, v)", 0, 9999, -1, (x, v) -> x.needs(5, 5, v));
        range("heavy(v, 1)", 0, 5, -1, (x, v) -> x.heavy(v, 1));
        range("heavy(5, v)", 0, 9999, -1, (x, v) -> x.heavy(5, v));
    }

    private static void asked() {
        due.part("promises 15 to 20");
        range("balance(v, 0, 0)", 0, 5, Scenes.VOID, (x, v) -> x.balance(v, 0, 0));
        range("balance(5, v, 0)", 0, 5, Scenes.VOID, (x, v) -> x.balance(5, v, 0));
        range("balance(5, 0, v)", 0, 1, Scenes.VOID, (x, v) -> x.balance(5, 0, v));
        takes("plan(v, 0, 0, 0)", -1, (x, v) -> x.plan(v, 0, 0, 0), 0, 1, 4);
        refuses("plan(v, 0, 0, 0)", -1, (x, v) -> x.plan(v, 0, 0, 0), near(0, 5).filter(v -> v < 0 || v > 1 && v != 4).toArray());
        range("plan(4, v, 0, 0)", -99, 99, -1, (x, v) -> x.plan(4, v, 0, 0));
        range("plan(4, 0, v, 0)", 0, 9999, -1, (x, v) -> x.plan(4, 0, v, 0));
        range("plan(4, 0, 0, v)", 0, 1, -1, (x, v) -> x.plan(4, 0, 0, v));
        range("can(v)", 0, 5, -1, (x, v) -> x.can(v));
        range("alike(v, 0, 0)", 0, 5, -1, (x, v) -> x.alike(v, 0, 0));
        range("alike(0, v, 0)", 0, 5, -1, (x, v) -> x.alike(0, v, 0));
        range("alike(0, 0, v)", 0, 1, -1, (x, v) -> x.alike(0, 0, v));
        range("inside(v)", 0, 5, -1, (x, v) -> x.inside(v));
        range("make(v, 1)", 0, 5, -1, (x, v) -> x.make(v, 1));
        range("make(2, v)", 1, 9999, -1, (x, v) -> x.make(2, v));
        range("make(0, v)", 1, 9999, -1, (x, v) -> x.make(0, v));
    }

    private static void layers() {
        due.part("promises 21 to 26");
        range("lay(v, 1, 0)", -1, 5, -1, (x, v) -> x.lay(v, 1, 0));
        range("lay(0, v, 0)", 1, 40, -1, (x, v) -> x.lay(0, v, 0));
        range("lay(0, 1, v)", 0, 1, -1, (x, v) -> x.lay(0, 1, v));
        range("skew(v)", 0, 2, Scenes.VOID, (x, v) -> x.skew(v));
        range("order(v)", -1, 1, -1, (x, v) -> x.order(v));
        range("fits(v, 0, 3, 3, 0)", 0, 2, -1, (x, v) -> x.fits(v, 0, 3, 3, 0));
        range("fits(0, v, 3, 3, 0)", 0, 40, -1, (x, v) -> x.fits(0, v, 3, 3, 0));
        range("fits(0, 0, v, 0, 0)", 0, 5, -1, (x, v) -> x.fits(0, 0, v, 0, 0));
        takes("fits(0, 0, 5, v, 0)", -1, (x, v) -> x.fits(0, 0, 5, v, 0), 0, 5, 16, 16 + 5, 16 * 4, 16 * 4 + 5);
        refuses("fits(0, 0, 5, v, 0)", -1, (x, v) -> x.fits(0, 0, 5, v, 0), near(0, 16 * 4 + 5).filter(v -> v < 0 || v > 16 * 4 + 5).toArray());
        range("fits(0, 0, 3, 3, v)", 0, 2, -1, (x, v) -> x.fits(0, 0, 3, 3, v));
        YarnPlier x = Scenes.busy();
        for (int ta = -40; ta < 300; ta++) {
            boolean thread = ta >= 0 && (ta / 16 == 0 || ta / 16 == 1 || ta / 16 == 4);
            int want = !thread || ta % 16 > 5 ? -1 : ta % 16 > 3 ? -5 : 15;
            due.is("fits(0, 0, 3, " + ta + ", 0)", x.fits(0, 0, 3, ta, 0), want);
        }
    }

    private static void jobsAndTape() {
        due.part("promises 27 to 35");
        range("job(v, 1)", 0, 5, -1, (x, v) -> x.job(v, 1));
        range("job(2, v)", 1, 9999, -1, (x, v) -> x.job(2, v));
        range("job(0, v)", 1, 9999, -1, (x, v) -> x.job(0, v));
        range("strike(v)", 0, 5, -1, (x, v) -> x.strike(v));
        range("jobOf(v, 1)", 0, 1, -2, (x, v) -> x.jobOf(v, 1));
        range("jobOf(0, v)", 0, 1, -1, (x, v) -> x.jobOf(0, v));
        range("feed(v)", 32, 126, -1, (x, v) -> x.feed(v));
    }

    private static void rows() {
        due.part("promises 36 to 42");
        range("row(v, 1)", 0, 2, -1, (x, v) -> x.row(v, 1));
        notAbove("row(0, v)", 40, -1, (x, v) -> x.row(0, v));
        notBelow("row(0, v)", -1, -14, (x, v) -> x.row(0, v));
        range("put(v, 0, 1)", 0, 2, -1, (x, v) -> x.put(v, 0, 1));
        range("put(0, v, 1)", 0, 2, -13, (x, v) -> x.put(0, v, 1));
        range("get(v, 0)", 0, 0, Scenes.VOID, (x, v) -> x.get(v, 0));
        range("get(0, v)", 0, 2, Scenes.VOID, (x, v) -> x.get(0, v));
        range("film(v, 1, 3, 3)", 0, 2, -1, (x, v) -> x.film(v, 1, 3, 3));
        range("film(0, v, 3, 3)", 0, 40, -1, (x, v) -> x.film(0, v, 3, 3));
        range("film(0, 1, v, 0)", 0, 5, -1, (x, v) -> x.film(0, 1, v, 0));
        range("film(0, 1, 5, v)", 0, 5, -1, (x, v) -> x.film(0, 1, 5, v));
        range("count(v)", 0, 6, -1, (x, v) -> x.count(v));
    }

    public static void main(String[] args) {
        yarns();
        leaves();
        asked();
        layers();
        jobsAndTape();
        rows();
        due.end();
    }
}
