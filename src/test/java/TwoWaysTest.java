/** "SO THAT NOTHING IS READ TWO WAYS", and the sentences on refusals and on 512 calls, sentence by sentence. */
public final class TwoWaysTest {
    private static final Due due = new Due();

    private static void refusals() {
        due.part("BAD (-1) .. NOT (-2) .. FULL (-3). STATE (-5): as told. VOID: the least int.");
        due.is("BAD", YarnPlier.BAD, -1);
        due.is("NOT", YarnPlier.NOT, -2);
        due.is("FULL", YarnPlier.FULL, -3);
        due.is("STATE", YarnPlier.STATE, -5);
        due.is("VOID", YarnPlier.VOID, -2147483648L);
        due.is("VOID of a long", new YarnPlier().kept(0, 0, 0), -2147483648L);
    }

    private static void calls() {
        due.part("An object is used for at most 512 calls after it has been made");
        YarnPlier x = Scenes.twists(5);
        for (int call = 2; call < 512; call++) {
            due.is("call " + call, x.set(0, 0, call % 99), call == 2 ? 5 : (call - 1) % 99);
        }
        due.is("call 512", x.torque(0), 511 % 99);
        YarnPlier y = new YarnPlier();
        for (int call = 1; call < 512; call++) {
            due.is("call " + call, y.thread(0, 1, 1), call <= 16 ? call - 1 : -3);
        }
        due.is("call 512", y.clear(), 16);
    }

    private static void division() {
        due.part("By is a division, cut toward 0, but where \"cut up\" is told.");
        YarnPlier x = new YarnPlier();
        x.thread(2, 1, 99);
        due.is("SILK 99 by 2", x.torque(0), 49);
        x.set(0, 0, -99);
        due.is("SILK -99 by 2", x.torque(0), -49);
        due.is("99 by 100", x.heavy(0, 99), 0);
        Scenes.plied(x, 1, 0, 0);
        due.is("1000 by 998, cut up", x.needs(1, 0, 1), 2);
        due.is("998000 by 998, nothing to cut", x.needs(1, 0, 998), 1000);
    }

    private static void bundle() {
        due.part("THE BUNDLE holds 0 .. 4 YARNS, in the order in which they came to it, for the next ply()");
        YarnPlier x = Scenes.twists(1, 2, 3, 4);
        due.is("none at first", x.count(1), 0);
        for (int i = 0; i < 4; i++) {
            due.is("part()", x.part(3 - i), i + 1);
        }
        due.is("a fifth", x.part(0), -3);
        due.is("4 at most", x.count(1), 4);
        due.is("ply()", x.ply(0), 4);
        for (int i = 0; i < 4; i++) {
            due.is("in their order", x.partOf(4, i), 3 - i);
        }
        due.part("what clear(), undo() find there is gone");
        x.part(0);
        x.part(1);
        x.image();
        due.is("image() leaves it", x.count(1), 2);
        x.undo();
        due.is("behind undo()", x.count(1), 0);
        due.is("none to ply", x.ply(0), -5);
        x.part(0);
        x.clear();
        due.is("behind clear()", x.count(1), 0);
        x.thread(0, 1, 1);
        x.part(0);
        due.is("behind clear(), the next is the first", x.count(1), 1);
        due.is("one is too few", x.ply(0), -5);
        YarnPlier y = Scenes.twists(1);
        y.part(0);
        due.is("a refused undo() leaves it", y.undo() + y.count(1), -4);
        due.part("ply() leaves nothing there, but where it is refused.");
        y.part(0);
        due.is("refused", y.ply(100), -1);
        due.is("they stay", y.count(1), 2);
        due.is("not refused", y.ply(99), 1);
        due.is("nothing there", y.count(1), 0);
        YarnPlier full = Scenes.full();
        due.is("FULL", full.ply(0), -3);
        due.is("they stay", full.count(1), 4);
    }

    private static void bundleOfTexts() {
        due.part("read()'s p does not touch THE BUNDLE.");
        for (int there = 0; there <= 4; there++) {
            YarnPlier x = Scenes.twists(1, 2);
            for (int i = 0; i < there; i++) {
                x.part(1);
            }
            due.is("p beside " + there, Scenes.text(x, "p0,0:5"), 1);
            due.is("refused p beside " + there, Scenes.text(x, "p0,9:5"), -200);
            due.is("they stay", x.count(1), there);
            due.is("its own PARTS", x.partOf(2, 1), 0);
            due.is("no others", x.partOf(2, 2), -2);
            due.is("ply()", x.ply(0), there < 2 ? -5 : 3);
            due.is("its PARTS", x.partOf(3, 0), there < 2 ? -1 : 1);
        }
    }

    private static void severalTimes() {
        due.part("What is within a YARN several times counts each time in TORQUE, LEAVES, NEEDS, once in INSIDE.");
        YarnPlier x = Scenes.twists(7);
        Scenes.plied(x, 0, 0, 0, 0);
        Scenes.plied(x, 0, 1, 0, 1, 1);
        due.is("TORQUE", x.torque(2), 70);
        due.is("LEAVES", x.of(2, 6), 10);
        due.is("each a LEAF", x.leaf(2, 9, 0), 0);
        x.set(3, 0, 9);
        due.is("NEEDS of all", x.make(2, 1), -5);
        x.set(3, 0, 10);
        due.is("NEEDS of all", x.make(2, 1), 1);
        due.is("10 less", x.of(0, 3), 0);
        due.is("INSIDE", x.inside(2), 7);
    }

    private static void notInside() {
        due.part("BALANCE, FITS: at a YARN that isn't INSIDE: STATE.");
        YarnPlier x = Scenes.cable();
        x.thread(0, 1, 1);
        x.row(0, 5);
        for (int yarn = 0; yarn < 5; yarn++) {
            for (int at = 0; at < 5; at++) {
                boolean in = (x.inside(yarn) >> at & 1) == 1;
                String names = yarn + " at " + at;
                due.holds("BALANCE of " + names, x.balance(yarn, at, 0) == -10000000 != in);
                due.holds("its TORQUE", x.balance(yarn, at, 1) == -10000000 != in);
                due.holds("FITS of " + names, x.fits(0, 1, yarn, 16 + at, 1) == -5 != in);
                due.holds("film of " + names, x.film(1, 1, yarn, at) == -5 != in);
            }
        }
        due.part("FITS of a THREAD that isn't INSIDE the YARN is asked all the same.");
        // 4 by 0, 1, 2: nothing of 0 or 1 is in it
        Scenes.row(x, 0, 0, 1, 2);
        for (int thread = 0; thread < 2; thread++) {
            due.is("all FIBRES", x.fits(0, 3, 4, 16 * thread + 4, 0), 15);
            due.is("all WEIGHTS", x.fits(0, 3, 4, 16 * thread + 4, 1), 99);
            due.is("the least", x.fits(0, 3, 4, 16 * thread + 4, 2), 1);
        }
        x.put(0, 2, 3);
        due.is("no FIBRES", x.fits(0, 3, 4, 4, 0), 0);
        due.is("no WEIGHTS", x.fits(0, 3, 4, 4, 1), 0);
        due.is("no least", x.fits(0, 3, 4, 4, 2), -2);
    }

    private static void plan() {
        due.part("PLAN: TWIST as told, in place of none (nothing comes).");
        YarnPlier x = Scenes.full();
        // weight 10; 2 of 125 yards, whatever the TWIST of 0 itself is
        due.is("with 16 YARNS", x.plan(0, 99, 0, 1), 25);
        x.set(0, 0, -99);
        due.is("its own TWIST does not matter", x.plan(0, 99, 0, 1), 25);
        due.is("by TWIST 0", x.plan(0, 0, 0, 1), 20);
        due.is("nothing comes", x.count(0), 16);
        due.is("THE BUNDLE stays", x.count(1), 4);
    }

    private static void told() {
        due.part("set() of FIBRE, WEIGHT of a PLIED one: STATE.");
        YarnPlier x = Scenes.cable();
        for (int yarn = 2; yarn < 4; yarn++) {
            due.is("FIBRE", x.set(2, yarn, 0), -10000);
            due.is("WEIGHT", x.set(1, yarn, 1), -10000);
            due.is("FIBRE stays", x.of(yarn, 2), -1);
            due.is("WEIGHT stays", x.of(yarn, 1), -1);
        }
        due.is("no STEP", x.count(4), 0);
        due.part("STOCK of a PLIED one may be told, too.");
        due.is("STOCK", x.set(3, 3, 99999), 0);
        due.is("STOCK", x.of(3, 3), 99999);
        due.is("by a text", Scenes.text(x, "s3,0"), 1);
        due.is("STOCK", x.of(3, 3), 0);
        due.part("make() of a THREAD: STATE.");
        x.set(3, 0, 99999);
        due.is("make()", x.make(0, 1), -5);
        due.is("m", Scenes.text(x, "m0,1"), -200);
        due.is("it stays", x.of(0, 3), 99999);
        due.part("JOBS of a THREAD: STATE as they come.");
        due.is("job()", x.job(0, 1), -5);
        due.is("none waits", x.count(3), 0);
        due.part("A TEXT's STOCK is as of set() (no STEP).");
        x.clear();
        Scenes.text(x, "t0,1,1");
        due.is("99999", Scenes.text(x, "s0,99999"), 1);
        due.is("no such YARN", Scenes.text(x, "s1,0"), -200);
        due.is("no STEP", x.count(4), 0);
        due.is("nothing to take BACK", x.back(), -5);
    }

    private static void cleared() {
        due.part("clear(): ROWS, THE TAPE, THE IMAGE, TALLY stay.");
        YarnPlier x = Scenes.busy();
        due.is("clear()", x.clear(), 6);
        due.is("ROW 0", x.get(0, 2), 12);
        due.is("ROW 1 is missing", x.put(1, 0, 0), -11);
        due.is("ROW 2 has none", x.put(2, 0, 0), -13);
        due.is("TALLY", x.tally(0), 3);
        due.is("THE TAPE", x.count(5), 5);
        due.is("THE TAPE: its text, of no YARN any more", x.read(), -200);
        due.is("THE IMAGE", x.undo(), 6);
        due.is("its LAYERS", x.count(2), 1);
        due.is("its JOBS", x.jobOf(0, 1), 50);
        due.is("clear() of nothing", new YarnPlier().clear(), 0);
    }

    private static void tapeRead() {
        due.part("THE TAPE is empty behind each call that reads it, by a FAULT and by all that is refused behind its text, too.");
        String[] texts = {"", "x", "t", "t0,1,1", "t0,1,1;", "t4,1,1", "t0,1,1;t4,1,1", "s99,1", "m0,1"};
        for (String text : texts) {
            YarnPlier x = Scenes.cable();
            Scenes.text(x, text);
            due.is("behind '" + text + "'", x.count(5), 0);
            due.is("read() once more", x.read(), -100);
            due.is("a new text", Scenes.text(x, "s0,1"), 1);
        }
        due.part("read(): FAULT, then -200 less the ACTS; a number out of its range is refused, no FAULT.");
        YarnPlier x = Scenes.cable();
        due.is("FAULT ahead of a refusal", Scenes.text(x, "t4,1,1;t4,1,"), -112);
        String[] refused = {"t99999,1,1", "t0,99999,1", "t0,1,99999", "t0,1,-99999", "p99999,0:1", "p0,99999:1", "p0,1:99999", "p0,1:-99999",
            "s99999,1", "m99999,1", "m2,99999", "m2,00000"};
        for (String text : refused) {
            due.is(text, Scenes.text(x, text), -200);
        }
        due.is("nothing came", x.count(0), 4);
    }

    public static void main(String[] args) {
        refusals();
        calls();
        division();
        bundle();
        bundleOfTexts();
        severalTimes();
        notInside();
        plan();
        told();
        cleared();
        tapeRead();
        due.end();
    }
}
