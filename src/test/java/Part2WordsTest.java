/** The document's second part, what is asked, sentence by sentence: what each says of its edges. */
public final class Part2WordsTest {
    private static final Due due = new Due();

    private static void changesNothing() {
        due.part("All that follows is asked, and changes nothing.");
        YarnPlier x = Scenes.busy();
        for (int yarn = 0; yarn < 6; yarn++) {
            for (int at = 0; at < 6; at++) {
                x.balance(yarn, at, 0);
                x.balance(yarn, at, 1);
                x.alike(yarn, at, yarn % 2);
                x.fits(0, 3, yarn, 16 * 4 + at, at % 3);
            }
            x.plan(yarn, 99, 50, yarn % 2);
            x.can(yarn);
            x.inside(yarn);
        }
        for (int k = -1; k <= 2; k++) {
            x.skew(k);
            x.order(k);
        }
        x.worst();
        x.turned();
        Probe.same(due, "asked", x, Scenes.busy());
    }

    private static void balance() {
        due.part("BALANCE of a YARN at one of those within (or itself): the TWIST (-99 .. 99) of that one by which TORQUE is least;"
                + " of like ones the one with the least without its sign, then the one below 0; that TORQUE (with its sign).");
        // weights 2 and 1, twists 99 and t: least at the edge
        YarnPlier x = new YarnPlier();
        x.thread(0, 2, 99);
        x.thread(0, 1, 5);
        Scenes.plied(x, 0, 0, 1);
        due.is("-99 at the edge", x.balance(2, 1, 0), -99);
        due.is("above 0 there", x.balance(2, 1, 1), 99);
        x.set(0, 0, -99);
        due.is("99 at the edge", x.balance(2, 1, 0), 99);
        due.is("below 0 there", x.balance(2, 1, 1), -99);
        x.set(1, 0, 1);
        due.is("99, with nothing left", x.balance(2, 1, 0), 99);
        due.is("nothing left", x.balance(2, 1, 1), 0);
        // SILK of weight 1 pulls nothing by -1, 0, 1
        YarnPlier silk = new YarnPlier();
        silk.thread(2, 1, 7);
        due.is("three are like: the least", silk.balance(0, 0, 0), 0);
        due.is("its TORQUE", silk.balance(0, 0, 1), 0);
        // 1, and SILK by t twice: 1 + 2 * (t by 2): -1 by -2 and -3, 1 by -1, 0, 1
        silk.thread(0, 1, 1);
        Scenes.plied(silk, 0, 0, 0, 1);
        due.is("five are like: the least", silk.balance(2, 0, 0), 0);
        due.is("its TORQUE", silk.balance(2, 0, 1), 1);
        // 4 and LINEN of weight 2 by t: 4 + 4 t (0 by -1); then WOOL 2 and LINEN: 2 + 4 t: 2 by 0, -2 by -1
        YarnPlier linen = new YarnPlier();
        linen.thread(1, 2, 50);
        linen.thread(0, 1, 4);
        Scenes.plied(linen, 0, 0, 1);
        due.is("one is 0", linen.balance(2, 0, 0), -1);
        linen.set(0, 1, 2);
        due.is("the least without its sign, though TORQUE is above 0", linen.balance(2, 0, 0), 0);
        due.is("with its sign", linen.balance(2, 0, 1), 2);
        linen.set(0, 1, -6);
        // -6 + 4 t: -2 by 1, 2 by 2
        due.is("the least without its sign, TORQUE below 0", linen.balance(2, 0, 0), 1);
        due.is("with its sign", linen.balance(2, 0, 1), -2);
        likeByBothSigns();
        thereTwice();
        // at itself: 2 t and 10 + t twice
        YarnPlier self = Scenes.twists(10);
        Scenes.plied(self, 77, 0, 0);
        due.is("at itself", self.balance(1, 1, 0), -5);
        due.is("nothing is left", self.balance(1, 1, 1), 0);
        due.is("at what is not INSIDE", self.balance(0, 1, 0), -10000000);
    }

    /** No PULL falls as its TURN rises: so where -t and t are like, 0 is no worse, and is taken. */
    private static void likeByBothSigns() {
        YarnPlier x = new YarnPlier();
        x.thread(3, 1, 0);
        x.thread(0, 1, 50);
        x.thread(0, 1, -50);
        Scenes.plied(x, 0, 0, 1, 2);
        due.is("-t and t are like: 0", x.balance(3, 0, 0), 0);
        due.is("nothing is left", x.balance(3, 0, 1), 0);
    }

    private static void thereTwice() {
        // 30, and 0 three times by t; the PLIED ones pull nothing
        YarnPlier x = Scenes.twists(0, 30);
        Scenes.plied(x, 0, 0, 0);
        Scenes.plied(x, 0, 2, 0, 1);
        due.is("wherever it is there", x.balance(3, 0, 0), -10);
        due.is("nothing is left", x.balance(3, 0, 1), 0);
        due.is("its own TWIST does not matter", x.set(0, 0, 77) + x.balance(3, 0, 0), -10);
    }

    private static void plan() {
        due.part("PLAN: of 2, 3, 4 times that THREAD, PLIED so, that of which 100 yards are HEAVY nearest to the wish, of like ones the fewest; how HEAVY.");
        YarnPlier x = new YarnPlier();
        x.thread(0, 10, 0);
        // 20, 30, 40
        int[][] wishes = {{0, 2, 20}, {20, 2, 20}, {24, 2, 20}, {25, 2, 20}, {26, 3, 30}, {34, 3, 30}, {35, 3, 30}, {36, 4, 40}, {9999, 4, 40}};
        for (int[] w : wishes) {
            due.is("wish " + w[0], x.plan(0, 0, w[0], 0), w[1]);
            due.is("wish " + w[0] + ", heavy", x.plan(0, 0, w[0], 1), w[2]);
        }
        due.is("wish -1", x.plan(0, 0, -1, 0), -1);
        due.is("wish 10000", x.plan(0, 0, 10000, 0), -1);
        // weight 1: 2, 3, 4 by twist 0; by 99: 250, 429, 664 by 100
        x.set(1, 0, 1);
        due.is("all are cut", x.plan(0, 99, 9999, 1), 6);
        due.is("all are cut", x.plan(0, -99, 3, 1), 2);
        due.is("of like ones the fewest: 2 and 4 by wish 3", x.plan(0, 99, 3, 0), 2);
        due.is("of like ones the fewest: 4 and 6 by wish 5", x.plan(0, 99, 5, 0), 3);
        // weight 99: 297 .. : 2 * 99 * 125, 3 * 99 * 143, 4 * 99 * 166
        x.set(1, 0, 99);
        due.is("the heaviest", x.plan(0, 99, 9999, 1), 657);
    }

    private static void can() {
        due.part("CAN of a PLIED one: the most yards (0 .. 9999) that can be MADE by STOCK (and its own STOCK would be no more than 99999).");
        YarnPlier x = Scenes.twists(0);
        Scenes.plied(x, 50, 0, 0);
        // by 900: 9 yards need 10 of each
        int[][] stocks = {{0, 0, 0}, {1, 0, 0}, {3, 0, 0}, {4, 0, 1}, {19, 0, 8}, {20, 0, 9}, {22219, 0, 9998}, {22220, 0, 9999}, {99999, 0, 9999},
            {99999, 90000, 9999}, {99999, 90001, 9998}, {99999, 99998, 1}, {99999, 99999, 0}, {4, 99999, 0}, {4, 99998, 1}, {20, 99998, 1}};
        for (int[] s : stocks) {
            x.set(3, 0, s[0]);
            x.set(3, 1, s[1]);
            due.is("of " + s[0] + ", its own " + s[1], x.can(1), s[2]);
        }
        for (int stock = 0; stock < 60; stock++) {
            x.set(3, 0, stock);
            x.set(3, 1, 0);
            int can = x.can(1);
            due.is("one more is refused", x.make(1, can + 1), -5);
            due.is("so many are MADE", can == 0 ? 0 : x.make(1, can), can);
        }
    }

    private static void alike() {
        due.part("ALIKE: two THREADS of the same FIBRE, WEIGHT, TWIST; two PLIED ones of the same TWIST, of as many PARTS, PART by PART ALIKE.");
        YarnPlier x = new YarnPlier();
        x.thread(1, 5, 9);
        x.thread(1, 5, 9);
        due.is("a YARN and itself", x.alike(0, 0, 0), 1);
        due.is("two", x.alike(0, 1, 0), 1);
        for (int what = 0; what < 3; what++) {
            int was = x.set(what, 1, 2);
            due.is("another " + what, x.alike(0, 1, 0), 0);
            x.set(what, 1, was);
        }
        x.set(3, 1, 500);
        due.is("STOCK does not matter", x.alike(0, 1, 0), 1);
        Scenes.plied(x, 4, 0, 1);
        Scenes.plied(x, 4, 1, 0);
        Scenes.plied(x, 4, 0, 1, 0);
        Scenes.plied(x, 5, 0, 1);
        due.is("PART by PART", x.alike(2, 3, 0), 1);
        due.is("one PART more", x.alike(2, 4, 0), 0);
        due.is("another TWIST", x.alike(2, 5, 0), 0);
        due.is("a THREAD and a PLIED one", x.alike(0, 2, 0), 0);
        x.set(1, 1, 6);
        due.is("not in that order", x.alike(2, 3, 0), 0);
        due.part("MIRRORED: likewise, but each TWIST has the other sign.");
        YarnPlier y = Scenes.twists(9, -9, 0);
        Scenes.plied(y, 4, 0, 2);
        Scenes.plied(y, -4, 1, 2);
        Scenes.plied(y, -4, 0, 2);
        Scenes.plied(y, 4, 1, 2);
        due.is("THREADS", y.alike(0, 1, 1), 1);
        due.is("a YARN and itself", y.alike(0, 0, 1), 0);
        due.is("TWIST 0 and itself", y.alike(2, 2, 1), 1);
        due.is("PLIED ones", y.alike(3, 4, 1), 1);
        due.is("and the other way", y.alike(4, 3, 1), 1);
        due.is("a PART as it was", y.alike(3, 5, 1), 0);
        due.is("its own TWIST as it was", y.alike(3, 6, 1), 0);
        y.set(0, 2, 1);
        due.is("a PART of TWIST 1 in both", y.alike(3, 4, 1), 0);
        y.set(0, 0, 99);
        y.set(0, 1, -99);
        due.is("99 and -99", y.alike(0, 1, 1), 1);
        y.set(2, 1, 1);
        due.is("another FIBRE", y.alike(0, 1, 1), 0);
    }

    private static void inside() {
        due.part("INSIDE: the numbers of all within and itself (bits).");
        YarnPlier x = Scenes.widest();
        due.is("a THREAD", x.inside(0), 1);
        due.is("one of four", x.inside(4), 0x1f);
        due.is("13 YARNS", x.inside(12), 0x1fff);
        x.thread(0, 1, 1);
        x.thread(0, 1, 1);
        Scenes.plied(x, 1, 14, 14);
        due.is("the 16th and the 15th", x.inside(15), 0xc000);
        due.is("that is around does not matter", x.inside(14), 0x4000);
    }

    private static void layers() {
        due.part("LAYERS (8 at most), numbered from 0 on: a YARN, ROWS (1 .. 40), a WAY (0, 1).");
        YarnPlier x = Scenes.twists(3, 5);
        int[][] bad = {{0, 0, 0}, {0, 41, 0}, {0, -1, 0}, {0, 1, 2}, {0, 1, -1}, {2, 1, 0}, {-2, 1, 0}};
        for (int[] b : bad) {
            due.is("lay(" + b[0] + ", " + b[1] + ", " + b[2] + ")", x.lay(b[0], b[1], b[2]), -1);
        }
        due.is("none came", x.count(2), 0);
        due.is("1 row", x.lay(0, 1, 0), 1);
        due.is("40 rows", x.lay(1, 40, 1), 2);
        due.is("1 row of 3", x.skew(1), 3);
        due.is("40 rows of 5, the other WAY", x.skew(2), 3 - 200);
        for (int i = 3; i <= 8; i++) {
            due.is("as many as " + i, x.lay(0, 2, 0), i);
        }
        due.is("a ninth", x.lay(0, 2, 0), -3);
        due.is("8 at most", x.skew(8), 3 - 200 + 36);
        due.is("no ninth", x.skew(9), Scenes.VOID);
        due.is("the same YARN may lie in many", x.count(2), 8);
    }

    private static void skewAndWorst() {
        due.part("SKEW behind k LAYERS: of each of the first k TORQUE times ROWS, by WAY 1 the other sign, together.");
        YarnPlier x = Scenes.twists(-7, 0);
        due.is("behind none", x.skew(0), 0);
        due.is("behind one that is not there", x.skew(1), Scenes.VOID);
        x.lay(0, 3, 1);
        x.lay(0, 3, 0);
        x.lay(1, 40, 1);
        int[] skews = {0, 21, 0, 0};
        for (int k = 0; k < 4; k++) {
            due.is("behind " + k, x.skew(k), skews[k]);
        }
        due.is("behind -1", x.skew(-1), Scenes.VOID);
        due.is("behind 4", x.skew(4), Scenes.VOID);
        due.part("WORST: the greatest SKEW without its sign behind 1, 2 .. all (0: no LAYERS).");
        due.is("21, 0, 0", x.worst(), 21);
        x.lay(0, 4, 0);
        due.is("the last, below 0", x.worst(), 28);
        x.lay(-1, 0, 0);
        due.is("no LAYERS", x.worst(), 0);
        x.lay(1, 1, 0);
        due.is("one of 0", x.worst(), 0);
    }

    private static YarnPlier laid(int... pulls) {
        YarnPlier x = Scenes.twists(pulls);
        for (int i = 0; i < pulls.length; i++) {
            x.lay(i, 1, 0);
        }
        return x;
    }

    private static void order() {
        due.part("ORDER: of all orders of LAYERS that by which WORST is least, of like ones the first (as a row of numbers): that WORST; the k-th.");
        due.is("no LAYERS", new YarnPlier().order(-1), 0);
        due.is("no LAYERS, no 0th", new YarnPlier().order(0), -1);
        due.is("one", laid(-9).order(-1), 9);
        due.is("one, the 0th", laid(-9).order(0), 0);
        due.is("one, no 1st", laid(-9).order(1), -1);
        // all orders are like: nothing is less than 8 * 5
        YarnPlier all = laid(5, 5, 5, 5, 5, 5, 5, 5);
        due.is("eight alike", all.order(-1), 40);
        for (int k = 0; k < 8; k++) {
            due.is("eight alike, " + k, all.order(k), k);
        }
        due.is("no 8th", all.order(8), -1);
        YarnPlier half = laid(50, 50, -99);
        due.is("50, -49, 1", half.order(-1), 50);
        int[] wants = {0, 2, 1};
        for (int k = 0; k < 3; k++) {
            due.is("the " + k + "-th", half.order(k), wants[k]);
        }
        firstOfAll(laid(6, 5, 4, 3, 2, 1, -9, -9));
        firstOfAll(laid(3, -3, 3, -3, 3, -3, 3, -3));
        firstOfAll(laid(0, 7, 0, -7, 7, 0, -7, 0));
        firstOfAll(laid(-99, 98, -97, 96, -95, 94, -93, 92));
    }

    private static int least;
    private static int[] first;

    private static int leastOfAll(YarnPlier x) {
        least = Integer.MAX_VALUE;
        int n = x.count(2);
        int[] pulls = new int[n];
        for (int k = 0; k < n; k++) {
            pulls[k] = x.skew(k + 1) - x.skew(k);
        }
        tryAll(pulls, new int[n], 0);
        return least;
    }

    private static void firstOfAll(YarnPlier x) {
        due.is("the least of all orders", x.order(-1), leastOfAll(x));
        for (int k = 0; k < first.length; k++) {
            due.is("the first of all orders, " + k, x.order(k), first[k]);
        }
    }

    /** Rows of numbers in their order, so that of like ones the first stays. */
    private static void tryAll(int[] pulls, int[] row, int laid) {
        if (laid == row.length) {
            int skew = 0;
            int worst = 0;
            for (int layer : row) {
                skew += pulls[layer];
                worst = Math.max(worst, Math.abs(skew));
            }
            if (worst < least) {
                least = worst;
                first = row.clone();
            }
            return;
        }
        for (int next = 0; next < row.length; next++) {
            boolean there = false;
            for (int i = 0; i < laid; i++) {
                there |= row[i] == next;
            }
            if (!there) {
                row[laid] = next;
                tryAll(pulls, row, laid + 1);
            }
        }
    }

    private static void turned() {
        due.part("TURNED: the LAYER by which, its WAY being the other one, WORST is least, less than as it is, of like ones the first; NOT.");
        due.is("no LAYERS", new YarnPlier().turned(), -2);
        due.is("one: as great as it is", laid(5).turned(), -2);
        due.is("two that undo one another", laid(5, -5).turned(), -2);
        due.is("like ones: the first", laid(5, 5).turned(), 0);
        due.is("less by 1 by each: the first", laid(5, 1).turned(), 0);
        due.is("as great as it is: 10 by each", laid(10, -1).turned(), -2);
        due.is("all 0", laid(0, 0, 0, 0, 0, 0, 0, 0).turned(), -2);
        due.is("like ones among eight", laid(9, -9, 9, -9, 9, -9, 9, 9).turned(), 6);
        due.is("the last of eight", laid(1, 1, 1, 1, 1, 1, 1, 99).turned(), 7);
        YarnPlier x = Scenes.twists(5);
        x.lay(0, 1, 1);
        x.lay(0, 2, 1);
        // -5, -15; the first turned: 5, -5; the other: -5, 5
        due.is("of WAY 1, too", x.turned(), 0);
    }

    private static void fits() {
        due.part("FITS: a ROW tells TORQUES of a YARN, were the TWIST of one within (or itself) 0, 1, 2 .. (its first n places, 0 .. 40):"
                + " FIBRES (bits 0 .. 3) of a THREAD by which all of it is so; WEIGHTS (1 .. 99): how many, the least.");
        YarnPlier x = Scenes.twists(5);
        x.set(1, 0, 3);
        int[] forty = new int[40];
        for (int t = 0; t < 40; t++) {
            forty[t] = 3 * t;
        }
        Scenes.row(x, 0, forty);
        int[][] places = {{0, 15, 99, 1}, {1, 15, 99, 1}, {2, 9, 1, 3}, {21, 9, 1, 3}, {22, 1, 1, 3}, {40, 1, 1, 3}};
        for (int[] p : places) {
            for (int what = 0; what < 3; what++) {
                due.is("by " + p[0] + " places, what " + what, x.fits(0, p[0], 0, 0, what), p[what + 1]);
            }
        }
        due.is("41 places", x.fits(0, 41, 0, 0, 0), -1);
        due.is("-1 places", x.fits(0, -1, 0, 0, 0), -1);
        x.put(0, 39, 116);
        due.is("the 39th is not so", x.fits(0, 40, 0, 0, 0), 0);
        due.is("none", x.fits(0, 40, 0, 0, 1), 0);
        due.is("the least of none", x.fits(0, 40, 0, 0, 2), -2);
        due.is("it is not asked", x.fits(0, 39, 0, 0, 0), 1);
        // WOOL by 1 turns w: each weight can be told
        for (int w = 0; w <= 100; w++) {
            Scenes.row(x, 1, 0, w);
            due.is("of weight " + w, x.fits(1, 2, 0, 0, 2), w >= 1 && w <= 99 ? w : -2);
            due.is("how many", x.fits(1, 2, 0, 0, 1), w >= 1 && w <= 99 ? 1 : 0);
        }
        int[] far = {Scenes.MIN, Scenes.MIN + 3, Scenes.MAX, Scenes.MAX - 2, 1 << 16, 3 + (1 << 16), 3 - (1 << 16), 3 + (1 << 30)};
        for (int v : far) {
            Scenes.row(x, 1, 0, v);
            for (int fibre = 0; fibre < 4; fibre++) {
                x.set(2, 0, fibre);
                due.is("nothing wraps around to it, " + v, x.fits(1, 2, 0, 0, 0), 0);
                due.is("nothing wraps around to it, " + v, x.fits(1, 2, 0, 0, 1), 0);
            }
        }
    }

    private static void tally() {
        due.part("TALLY of a FIBRE: how often a PULL of it was asked by the latest torque() that was not refused.");
        YarnPlier x = Scenes.widest();
        for (int fibre = 0; fibre < 4; fibre++) {
            due.is("at first", x.tally(fibre), 0);
        }
        x.set(2, 1, 1);
        x.set(2, 2, 2);
        x.set(2, 3, 3);
        x.torque(12);
        for (int fibre = 0; fibre < 4; fibre++) {
            due.is("16 of each", x.tally(fibre), 16);
        }
        x.torque(13);
        x.torque(-1);
        x.torque(Scenes.MAX);
        due.is("refused ones leave it", x.tally(2), 16);
        x.set(2, 1, 0);
        due.is("as it was asked", x.tally(1), 16);
        x.torque(2);
        int[] wants = {0, 0, 1, 0};
        for (int fibre = 0; fibre < 4; fibre++) {
            due.is("the latest alone", x.tally(fibre), wants[fibre]);
        }
        due.is("no such FIBRE", x.tally(4), -1);
        due.is("no such FIBRE", x.tally(-1), -1);
    }

    public static void main(String[] args) {
        changesNothing();
        balance();
        plan();
        can();
        alike();
        inside();
        layers();
        skewAndWorst();
        order();
        turned();
        fits();
        tally();
        due.end();
    }
}
