/** Promises 21 to 26: layers, and fibres read back from torques. */
public final class LayersTest {
    private static final Due due = new Due();

    /** Layers that add these to the skew; each at most 99 from 0. */
    private static YarnPlier laid(int... pulls) {
        YarnPlier x = Scenes.twists(pulls);
        for (int i = 0; i < pulls.length; i++) {
            x.lay(i, 1, 0);
        }
        return x;
    }

    private static void lay() {
        due.part("promise 21");
        YarnPlier x = Scenes.cable();
        due.is("lay(0, 1, 0)", x.lay(0, 1, 0), 1);
        due.is("lay(3, 40, 1)", x.lay(3, 40, 1), 2);
        int[][] bad = {{4, 1, 0}, {-2, 1, 0}, {0, 0, 0}, {0, 41, 0}, {0, 1, -1}, {0, 1, 2}, {Scenes.MIN, 1, 0}};
        for (int[] b : bad) {
            due.is("bad lay", x.lay(b[0], b[1], b[2]), -1);
        }
        for (int i = 3; i <= 8; i++) {
            due.is("lay " + i, x.lay(1, 2, 1), i);
        }
        due.is("a ninth", x.lay(1, 2, 1), -3);
        due.is("a bad ninth", x.lay(1, 0, 1), -1);
        due.is("count(2)", x.count(2), 8);
        due.is("lay(-1, ..)", x.lay(-1, -7, 99), 0);
        due.is("count(2)", x.count(2), 0);
        due.is("lay(2, 5, 0)", x.lay(2, 5, 0), 1);
        x.set(0, 0, 1);
        x.job(2, 1);
        int[][] rest = {{Scenes.MIN, Scenes.MAX}, {0, 0}, {41, 2}, {1, 0}};
        for (int[] r : rest) {
            due.is("lay(-1, " + r[0] + ", " + r[1] + ")", x.lay(-1, r[0], r[1]), 0);
            due.is("none", x.count(2), 0);
        }
        due.is("jobs stay", x.count(3), 1);
        due.is("steps stay", x.count(4), 1);
        due.is("lay(-1, ..) without yarns", new YarnPlier().lay(-1, 0, 0), 0);
        due.is("lay(0, ..) without yarns", new YarnPlier().lay(0, 1, 0), -1);
    }

    private static void skew() {
        due.part("promise 22");
        YarnPlier x = Scenes.twists(5, 3, 7);
        x.lay(0, 2, 0);
        x.lay(1, 1, 1);
        x.lay(2, 1, 1);
        x.lay(0, 1, 0);
        int[] wants = {0, 10, 7, 0, 5};
        for (int k = 0; k < 5; k++) {
            due.is("skew(" + k + ")", x.skew(k), wants[k]);
        }
        due.is("skew(5)", x.skew(5), Scenes.VOID);
        due.is("skew(-1)", x.skew(-1), Scenes.VOID);
        x.set(0, 0, 6);
        due.is("torque as it is now", x.skew(4), 8);
        due.is("no layers", new YarnPlier().skew(0), 0);
        YarnPlier most = new YarnPlier();
        most.thread(1, 99, 99);
        for (int i = 0; i < 3; i++) {
            Scenes.plied(most, 99, i, i, i, i);
        }
        for (int i = 0; i < 8; i++) {
            most.lay(3, 40, 1);
        }
        due.is("the greatest", most.skew(8), -320L * (64 * 78408 + 16 * 1188 + 4 * 792 + 396));
        due.is("the greatest", most.worst(), 320L * (64 * 78408 + 16 * 1188 + 4 * 792 + 396));
    }

    private static void worst() {
        due.part("promise 23");
        due.is("10, 7, 0, 5", laid(10, -3, -7, 5).worst(), 10);
        due.is("below 0", laid(-3, -8, 20).worst(), 11);
        due.is("the last", laid(1, 2, 3).worst(), 6);
        due.is("none", new YarnPlier().worst(), 0);
    }

    private static void inOrder(YarnPlier x, int worst, int... order) {
        due.is("order(-1)", x.order(-1), worst);
        for (int k = 0; k < order.length; k++) {
            due.is("order(" + k + ")", x.order(k), order[k]);
        }
        due.is("no such k", x.order(order.length), -1);
        due.is("no such k", x.order(-2), -1);
    }

    private static void order() {
        due.part("promise 24");
        inOrder(laid(10, -3, -7, 5), 5, 1, 3, 2, 0);
        inOrder(laid(0, 0, 0), 0, 0, 1, 2);
        inOrder(laid(4, 4, -4), 4, 0, 2, 1);
        inOrder(laid(-4, 4, 4, -4), 4, 0, 1, 2, 3);
        inOrder(laid(7), 7, 0);
        inOrder(new YarnPlier(), 0);
        // of 2 2 2 2 -2 -2 -2 -2 the first by which it stays within 2
        YarnPlier x = laid(2, 2, 2, 2, -2, -2, -2, -2);
        inOrder(x, 2, 0, 4, 1, 5, 2, 6, 3, 7);
        due.is("the layers stay", x.skew(2), 4);
        // 6 is the worst whatever comes, so no turn is needed ahead of it
        inOrder(laid(1, 2, 3), 6, 0, 1, 2);
    }

    private static void turned() {
        due.part("promise 25");
        due.is("none is less", laid(10, -3, -7, 5).turned(), -2);
        due.is("the first of like ones", laid(10, 10, -3).turned(), 0);
        due.is("the least", laid(4, 10, 10).turned(), 1);
        due.is("the last", laid(1, 5, 40).turned(), 2);
        due.is("none there", new YarnPlier().turned(), -2);
        due.is("eight", laid(1, 1, 1, 1, 1, 1, 1, 99).turned(), 7);
        YarnPlier x = laid(4, 10, 10);
        x.turned();
        due.is("nothing changes", x.worst(), 24);
    }

    private static void fits() {
        due.part("promise 26");
        YarnPlier x = Scenes.cable();
        // torque of 2 by its own twist t: 10 (20 + t), 10 (t - 3), 2 t
        Scenes.row(x, 1, 170, 192, 214);
        due.is("fibres by 1 place: hemp pulls as wool up to 20", x.fits(1, 1, 2, 2, 0), 9);
        due.is("fibres by 3", x.fits(1, 3, 2, 2, 0), 1);
        due.is("fibres by 0", x.fits(1, 0, 2, 2, 0), 15);
        due.is("fibres of the other", x.fits(1, 3, 2, 16 + 2, 0), 2);
        due.is("weights", x.fits(1, 3, 2, 2, 1), 1);
        due.is("the least", x.fits(1, 3, 2, 2, 2), 10);
        due.is("the least of the other", x.fits(1, 3, 2, 16 + 2, 2), 5);
        due.is("weights by 0", x.fits(1, 0, 2, 2, 1), 99);
        due.is("the least by 0", x.fits(1, 0, 2, 2, 2), 1);
        x.put(1, 2, 215);
        due.is("the third is not so", x.fits(1, 3, 2, 2, 0), 0);
        due.is("weights", x.fits(1, 3, 2, 2, 1), 0);
        due.is("the least", x.fits(1, 3, 2, 2, 2), -2);
        due.is("by 2 it is", x.fits(1, 2, 2, 2, 0), 1);
        due.is("a thread that isn't inside: not so", x.fits(1, 1, 1, 1, 0), 0);
        Scenes.row(x, 0, 0, 10);
        due.is("a thread that isn't inside", x.fits(0, 2, 1, 1, 0), 15);
        due.is("its weights", x.fits(0, 2, 1, 1, 1), 99);
        due.is("the least", x.fits(0, 2, 1, 1, 2), 1);
        due.is("nothing changes", x.torque(3), 535);
        silk();
        forty();
        refusals(x);
    }

    private static void silk() {
        YarnPlier x = new YarnPlier();
        x.thread(2, 50, 9);
        Scenes.row(x, 0, 0, 3, 6, 9);
        due.is("6 and 7 by a half", x.fits(0, 2, 0, 0, 1), 2);
        due.is("the least", x.fits(0, 2, 0, 0, 2), 6);
        due.is("one by a whole", x.fits(0, 3, 0, 0, 1), 1);
        Scenes.row(x, 0, 0, 49);
        due.is("98 and 99", x.fits(0, 2, 0, 0, 1), 2);
        Scenes.row(x, 0, 0, 0);
        due.is("1", x.fits(0, 2, 0, 0, 2), 1);
        due.is("1 alone", x.fits(0, 2, 0, 0, 1), 1);
    }

    private static void forty() {
        YarnPlier x = Scenes.cable();
        Scenes.row(x, 0, new int[40]);
        for (int t = 0; t < 40; t++) {
            x.put(0, t, 711 + 44 * t);
        }
        due.is("40 places", x.fits(0, 40, 3, 2, 0), 1);
        due.is("40 places", x.fits(0, 40, 3, 16 + 2, 2), 5);
        x.put(0, 39, 0);
        due.is("the last is not so", x.fits(0, 40, 3, 2, 0), 0);
        due.is("39 are", x.fits(0, 39, 3, 2, 0), 1);
    }

    private static void refusals(YarnPlier x) {
        int[][] bad = {{-1, 0, 2, 2, 0}, {3, 0, 2, 2, 0}, {1, -1, 2, 2, 0}, {1, 41, 2, 2, 0}, {1, 0, -1, 2, 0}, {1, 0, 4, 2, 0},
            {1, 0, 2, -1, 0}, {1, 0, 2, 4, 0}, {1, 0, 2, 16 * 2 + 2, 0}, {1, 0, 2, 16 * 4 + 2, 0}, {1, 0, 2, 2, -1}, {1, 0, 2, 2, 3},
            {1, 0, 2, Scenes.MIN, 0}, {1, 0, 2, Scenes.MAX, 0}, {2, 41, 0, 3, 0}};
        for (int[] b : bad) {
            due.is("bad fits", x.fits(b[0], b[1], b[2], b[3], b[4]), -1);
        }
        due.is("not inside", x.fits(1, 1, 2, 3, 0), -5);
        due.is("not inside ahead of missing", x.fits(2, 1, 2, 3, 0), -5);
        due.is("missing", x.fits(2, 0, 2, 2, 0), -11);
        due.is("not so many places", x.fits(1, 4, 2, 2, 0), -13);
    }

    public static void main(String[] args) {
        lay();
        skew();
        worst();
        order();
        turned();
        fits();
        due.end();
    }
}
