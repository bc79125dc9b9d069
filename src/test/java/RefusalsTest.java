import java.util.function.Supplier;
import java.util.function.ToLongFunction;

/**
 * "ANSWERS that are refusals (nothing changes but where it is told), of several the first as the call's words name them".
 * Each refusal of each call alone, and each two that can be due at once; behind each the object is as its twin.
 */
public final class RefusalsTest {
    private static final Due due = new Due();

    private static void no(String what, long refusal, Supplier<YarnPlier> scene, ToLongFunction<YarnPlier> call) {
        Probe.refused(due, what, scene, call, refusal);
    }

    private static void busy(String what, long refusal, ToLongFunction<YarnPlier> call) {
        no(what, refusal, Scenes::busy, call);
    }

    private static void full(String what, long refusal, ToLongFunction<YarnPlier> call) {
        no(what, refusal, Scenes::full, call);
    }

    /** 16 yarns of which only threads 0 and 1 are in the bundle. */
    private static YarnPlier fullOfTwo() {
        YarnPlier x = Scenes.full();
        x.undo();
        x.part(0);
        x.part(1);
        return x;
    }

    private static YarnPlier fullOfOne() {
        YarnPlier x = Scenes.full();
        x.undo();
        x.part(0);
        return x;
    }

    /** 2 has 99998 yards, and of 0 and 1 there are as many as can be. */
    private static YarnPlier heaped() {
        YarnPlier x = Scenes.busy();
        x.set(3, 0, 99999);
        x.set(3, 1, 99999);
        x.set(3, 2, 99998);
        x.strike(3);
        x.strike(2);
        x.job(2, 2);
        return x;
    }

    private static YarnPlier heapedAndLacking() {
        YarnPlier x = heaped();
        x.set(3, 0, 2);
        return x;
    }

    /** Of 0 there is 1 yard less than the first job needs: 7000 by 992 cut up. */
    private static YarnPlier lacking() {
        YarnPlier x = Scenes.busy();
        x.strike(3);
        x.set(3, 0, 7);
        return x;
    }

    private static void yarns() {
        due.part("promise 2");
        full("a 17th", -3, x -> x.thread(0, 1, 0));
        full("BAD ahead of FULL: fibre", -1, x -> x.thread(4, 1, 0));
        full("BAD ahead of FULL: weight", -1, x -> x.thread(0, 0, 0));
        full("BAD ahead of FULL: twist", -1, x -> x.thread(0, 1, 100));
        due.part("promise 3");
        full("a fifth", -3, x -> x.part(0));
        full("BAD ahead of FULL", -1, x -> x.part(16));
        full("FULL ahead of STATE", -3, x -> x.part(5));
        busy("DEPTH 3", -5, x -> x.part(5));
        due.part("promise 4");
        no("none there", -5, Scenes::cable, x -> x.ply(0));
        no("one there", -5, RefusalsTest::fullOfOne, x -> x.ply(0));
        no("BAD ahead of STATE: none there", -1, Scenes::cable, x -> x.ply(100));
        no("BAD ahead of STATE: one there, 16 yarns", -1, RefusalsTest::fullOfOne, x -> x.ply(-100));
        no("STATE ahead of FULL: one there", -5, RefusalsTest::fullOfOne, x -> x.ply(99));
        no("FULL", -3, RefusalsTest::fullOfTwo, x -> x.ply(99));
        no("BAD ahead of FULL", -1, RefusalsTest::fullOfTwo, x -> x.ply(100));
        full("FULL: four there", -3, x -> x.ply(-99));
        due.part("promise 6");
        busy("WEIGHT of a PLIED one", -10000, x -> x.set(1, 2, 5));
        busy("FIBRE of a PLIED one", -10000, x -> x.set(2, 5, 1));
        busy("BAD ahead of STATE: weight", Scenes.VOID, x -> x.set(1, 2, 0));
        busy("BAD ahead of STATE: weight", Scenes.VOID, x -> x.set(1, 2, 100));
        busy("BAD ahead of STATE: fibre", Scenes.VOID, x -> x.set(2, 2, 4));
        busy("BAD ahead of STATE: fibre", Scenes.VOID, x -> x.set(2, 2, -1));
        full("refused with 10 STEPS", -10000, x -> x.set(1, 2, 5));
        full("refused with 10 STEPS", Scenes.VOID, x -> x.set(0, 0, 100));
        full("what is so already, with 10 STEPS", 20, x -> x.set(0, 0, 20));
        due.part("promise 8");
        busy("none of a THREAD", -2, x -> x.partOf(0, 0));
        busy("not so many", -2, x -> x.partOf(3, 3));
        busy("BAD ahead of NOT", -1, x -> x.partOf(0, -1));
    }

    private static void asked() {
        due.part("promise 15");
        busy("it is not INSIDE", -10000000, x -> x.balance(3, 4, 0));
        busy("it is not INSIDE: around it", -10000000, x -> x.balance(3, 5, 1));
        busy("BAD ahead of STATE", Scenes.VOID, x -> x.balance(3, 4, 2));
        due.part("promise 16");
        busy("no THREAD", -1, x -> x.plan(2, 0, 0, 0));
        due.part("promise 17");
        busy("a THREAD", -5, x -> x.can(0));
        due.part("promise 20");
        busy("a THREAD", -5, x -> x.make(0, 1));
        busy("BAD ahead of STATE: a THREAD", -1, x -> x.make(0, 0));
        no("STOCK lacks by 1", -5, RefusalsTest::lacking, x -> x.make(2, 7));
        no("BAD ahead of STATE: STOCK lacks", -1, RefusalsTest::lacking, x -> x.make(2, 10000));
        no("above 99999", -5, RefusalsTest::heaped, x -> x.make(2, 2));
        no("STOCK lacks, and above 99999", -5, RefusalsTest::heapedAndLacking, x -> x.make(2, 2));
        due.part("promise 21");
        full("a ninth", -3, x -> x.lay(0, 1, 0));
        full("BAD ahead of FULL: yarn", -1, x -> x.lay(16, 1, 0));
        full("BAD ahead of FULL: yarn", -1, x -> x.lay(-2, 1, 0));
        full("BAD ahead of FULL: rows", -1, x -> x.lay(0, 41, 0));
        full("BAD ahead of FULL: way", -1, x -> x.lay(0, 1, 2));
        due.part("promise 25");
        no("no LAYERS", -2, Scenes::cable, YarnPlier::turned);
    }

    private static void fits() {
        due.part("promise 26");
        busy("it is not INSIDE", -5, x -> x.fits(0, 1, 3, 4, 0));
        busy("missing", -11, x -> x.fits(1, 0, 3, 3, 0));
        busy("not so many places", -13, x -> x.fits(0, 4, 3, 3, 0));
        busy("none there", -13, x -> x.fits(2, 1, 3, 3, 0));
        busy("BAD ahead of STATE: row", -1, x -> x.fits(3, 1, 3, 4, 0));
        busy("BAD ahead of STATE: n", -1, x -> x.fits(0, 41, 3, 4, 0));
        busy("BAD ahead of STATE: no THREAD", -1, x -> x.fits(0, 1, 3, 16 * 2 + 4, 0));
        busy("BAD ahead of STATE: what", -1, x -> x.fits(0, 1, 3, 4, 3));
        busy("BAD ahead of -11: n", -1, x -> x.fits(1, -1, 3, 3, 0));
        busy("BAD ahead of -11: n", -1, x -> x.fits(1, 41, 3, 3, 0));
        busy("BAD ahead of -11: yarn", -1, x -> x.fits(1, 0, 6, 3, 0));
        busy("BAD ahead of -11: what", -1, x -> x.fits(1, 0, 3, 3, -1));
        busy("BAD ahead of -13: n", -1, x -> x.fits(0, 41, 3, 3, 0));
        busy("BAD ahead of -13: ta", -1, x -> x.fits(0, 4, 3, -1, 0));
        busy("BAD ahead of -13: what", -1, x -> x.fits(0, 4, 3, 3, 3));
        busy("STATE ahead of -11", -5, x -> x.fits(1, 1, 3, 4, 0));
        busy("STATE ahead of -13", -5, x -> x.fits(0, 4, 3, 5, 0));
        busy("none fits: NOT", -2, x -> x.fits(0, 3, 3, 3, 2));
    }

    private static void jobs() {
        due.part("promise 27");
        busy("a THREAD", -5, x -> x.job(0, 1));
        full("a ninth", -3, x -> x.job(2, 1));
        busy("BAD ahead of STATE", -1, x -> x.job(0, 0));
        full("BAD ahead of FULL: yarn", -1, x -> x.job(16, 1));
        full("BAD ahead of FULL: yards", -1, x -> x.job(2, 10000));
        full("BAD ahead of STATE and FULL", -1, x -> x.job(0, 10000));
        full("STATE ahead of FULL", -5, x -> x.job(0, 1));
        due.part("promise 28");
        no("none waits", -2, Scenes::cable, YarnPlier::do1);
        no("STOCK lacks by 1", -5, RefusalsTest::lacking, YarnPlier::do1);
        no("above 99999", -5, RefusalsTest::heaped, YarnPlier::do1);
        due.part("promise 31");
        busy("not so many", -2, x -> x.jobOf(2, 0));
        busy("below 0", -2, x -> x.jobOf(-1, 0));
        busy("BAD ahead of NOT", -1, x -> x.jobOf(2, 2));
        busy("BAD ahead of NOT", -1, x -> x.jobOf(-1, -1));
        due.part("promise 32");
        no("no STEPS", -5, Scenes::cable, YarnPlier::back);
    }

    private static void rows() {
        due.part("promise 33");
        full("an 81st", -3, x -> x.feed('0'));
        full("BAD ahead of FULL", -1, x -> x.feed(127));
        full("BAD ahead of FULL", -1, x -> x.feed(31));
        due.part("promise 36");
        busy("BAD ahead of -14", -1, x -> x.row(3, -2));
        busy("BAD ahead of -14", -1, x -> x.row(-1, Scenes.MIN));
        busy("no such ROW, a good n", -1, x -> x.row(3, -1));
        due.part("promise 37");
        busy("missing", -11, x -> x.put(1, 0, 5));
        busy("a place outside", -13, x -> x.put(0, 3, 5));
        busy("none there", -13, x -> x.put(2, 0, 5));
        busy("BAD: no such place in no such ROW", -1, x -> x.put(3, -1, 5));
        busy("-11 ahead of -13", -11, x -> x.put(1, -1, 5));
        busy("-11 ahead of -13", -11, x -> x.put(1, 40, 5));
        due.part("promise 38");
        busy("missing", Scenes.VOID, x -> x.get(1, 0));
        busy("none there", Scenes.VOID, x -> x.get(2, 0));
        due.part("promise 39");
        busy("it is not INSIDE", -5, x -> x.film(0, 2, 3, 4));
        busy("it is not INSIDE, the ROW is missing", -5, x -> x.film(1, 2, 3, 5));
        busy("BAD ahead of STATE: row", -1, x -> x.film(3, 2, 3, 4));
        busy("BAD ahead of STATE: n", -1, x -> x.film(0, 41, 3, 4));
        busy("BAD ahead of STATE: n", -1, x -> x.film(0, -1, 3, 4));
        due.part("promise 41");
        no("no IMAGE", -5, RefusalsTest::withoutImage, YarnPlier::undo);
    }

    private static YarnPlier withoutImage() {
        YarnPlier x = Scenes.cable();
        x.set(3, 0, 500);
        x.part(0);
        x.part(2);
        x.lay(3, 2, 1);
        x.job(3, 8);
        Scenes.feed(x, "s0,7");
        return x;
    }

    /** Refused, but the tape is told to be empty behind it. */
    private static void texts() {
        due.part("promise 35");
        String[] faults = {"", "s", "s0,7;", "s0,7;x", "t9,1,1;x", "s0,7 "};
        for (String text : faults) {
            YarnPlier x = Scenes.busy();
            x.wipe();
            Scenes.feed(x, text);
            due.holds("'" + text + "' is a FAULT", x.read() > -200);
            YarnPlier twin = Scenes.busy();
            twin.wipe();
            Probe.same(due, "'" + text + "'", x, twin);
        }
        String[] refused = {"t4,1,1", "t0,0,1", "t0,1,100", "p0,9:1", "p0,5:1", "p0,1:100", "s9,1", "m0,1", "m2,0", "m9,1", "m2,9999"};
        for (String text : refused) {
            YarnPlier x = Scenes.busy();
            x.wipe();
            Scenes.feed(x, text + ";s0,7");
            due.is("'" + text + "'", x.read(), -200);
            YarnPlier twin = Scenes.busy();
            twin.wipe();
            Probe.same(due, "'" + text + "'", x, twin);
        }
    }

    public static void main(String[] args) {
        yarns();
        asked();
        fits();
        jobs();
        rows();
        texts();
        due.end();
    }
}
