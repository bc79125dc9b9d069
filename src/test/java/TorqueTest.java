/** Promises 9 to 14: leaves, torque, what is taken up. */
public final class TorqueTest {
    private static final Due due = new Due();

    private static void leaf() {
        due.part("promise 9");
        YarnPlier x = Scenes.cable();
        int[] threads = {0, 1, 0, 1, 0};
        int[] turns = {19, -4, 19, -4, 23};
        for (int i = 0; i < 5; i++) {
            due.is("leaf(3, " + i + ", 0)", x.leaf(3, i, 0), threads[i]);
            due.is("leaf(3, " + i + ", 1)", x.leaf(3, i, 1), turns[i]);
        }
        due.is("a thread's own", x.leaf(1, 0, 0), 1);
        due.is("its turn", x.leaf(1, 0, 1), -3);
        due.is("leaf(2, 1, 1)", x.leaf(2, 1, 1), -7);
        int[][] bad = {{3, 5, 0}, {3, -1, 0}, {4, 0, 0}, {-1, 0, 0}, {3, 0, 2}, {3, 0, -1}, {0, 1, 0}, {3, Scenes.MAX, 1}};
        for (int[] b : bad) {
            due.is("bad leaf", x.leaf(b[0], b[1], b[2]), Scenes.VOID);
        }
        YarnPlier deep = Scenes.deep();
        Scenes.plied(deep, 9, 0, 1, 0, 2);
        int[] deepTurns = {10, 11, 11, 10, 12, 12, 11};
        for (int i = 0; i < 7; i++) {
            due.is("leaf(4, " + i + ", 1)", deep.leaf(4, i, 1), deepTurns[i]);
        }
        due.is("leaf(4, 7, 1)", deep.leaf(4, 7, 1), Scenes.VOID);
    }

    /** fibre, weight, twist, torque */
    private static void pulls() {
        int[][] rows = {{0, 10, 20, 200}, {0, 99, -99, -9801}, {1, 5, -3, -30}, {1, 99, 99, 19602},
            {2, 7, 25, 87}, {2, 7, -25, -87}, {2, 1, 1, 0}, {2, 1, -1, 0}, {2, 4, 3, 6},
            {3, 2, 25, 60}, {3, 2, -25, -60}, {3, 2, 20, 40}, {3, 2, -20, -40}, {3, 2, 21, 44}, {3, 2, -21, -44}, {3, 9, 40, 540}};
        for (int[] r : rows) {
            YarnPlier x = new YarnPlier();
            x.thread(r[0], r[1], r[2]);
            due.is("torque of fibre " + r[0] + " weight " + r[1] + " twist " + r[2], x.torque(0), r[3]);
        }
    }

    private static void torque() {
        due.part("promise 10");
        pulls();
        YarnPlier x = Scenes.cable();
        // turns 16, -7, -4: 160 - 70 - 8
        due.is("torque(2)", x.torque(2), 82);
        // 9; twice -2, 190, -40; 230
        due.is("torque(3)", x.torque(3), 535);
        due.is("torque(4)", x.torque(4), Scenes.VOID);
        due.is("torque(-1)", x.torque(-1), Scenes.VOID);
        x.set(0, 2, 0);
        // 9; twice 6, 230, 0; 230
        due.is("torque(3) by twist 0 of 2", x.torque(3), 711);
        YarnPlier most = new YarnPlier();
        most.thread(1, 99, 99);
        for (int i = 0; i < 3; i++) {
            Scenes.plied(most, 99, i, i, i, i);
        }
        // 64 of 78408; 16 of 4 times 297; 4 of 4 times 198; 4 times 99
        due.is("the greatest", most.torque(3), 64 * 78408 + 16 * 1188 + 4 * 792 + 396);
        // all turns together, of plied ones 4 times: twists -8, -3, 2, 7 and -7, -2, 3, 8, and 2
        // 4 * 2; 4 * (2 + 4 * 2); 4 * (4 * -2 + 4 * 2 + 16 * 2); 16 * 34 + 16 * -2 + 16 * 2 + 64 * 2
        YarnPlier widest = Scenes.widest();
        due.is("85 places", widest.torque(12), 8 + 40 + 128 + 672);
        due.is("its leaves", widest.of(12, 6), 64);
        due.is("the last leaf: 30, 7, 8, 2", widest.leaf(12, 63, 1), 47);
        due.is("the first leaf: 1, -8, -7, 2", widest.leaf(12, 0, 1), -12);
    }

    private static void tally() {
        due.part("promise 11");
        YarnPlier x = Scenes.cable();
        x.thread(3, 1, 0);
        x.thread(2, 1, 0);
        Scenes.plied(x, 0, 3, 4, 5, 4);
        x.torque(6);
        int[] wants = {3, 2, 1, 2};
        for (int i = 0; i < 4; i++) {
            due.is("tally(" + i + ")", x.tally(i), wants[i]);
        }
        x.torque(99);
        x.torque(-1);
        x.balance(3, 0, 0);
        x.film(0, 3, 3, 0);
        x.fits(0, 3, 3, 0, 0);
        x.lay(0, 1, 0);
        x.skew(1);
        x.worst();
        x.order(0);
        x.turned();
        x.count(6);
        x.image();
        x.undo();
        due.is("others leave it", x.tally(0), 3);
        due.is("others leave it", x.tally(3), 2);
        due.is("tally(-1)", x.tally(-1), -1);
        due.is("tally(4)", x.tally(4), -1);
        x.torque(1);
        due.is("behind torque(1)", x.tally(0), 0);
        due.is("behind torque(1)", x.tally(1), 1);
        x.torque(2);
        x.torque(0);
        due.is("behind torque(0)", x.tally(0), 1);
        due.is("behind torque(0)", x.tally(1), 0);
        YarnPlier widest = Scenes.widest();
        widest.torque(12);
        due.is("85 places", widest.tally(0), 64);
    }

    private static void kept() {
        due.part("promise 12");
        YarnPlier x = Scenes.cable();
        // 991 * 992 by 1000000, shortened by 32
        due.is("kept(3, 0, 0)", x.kept(3, 0, 0), 30721);
        due.is("kept(3, 0, 1)", x.kept(3, 0, 1), 31250);
        due.is("kept(3, 3, 0)", x.kept(3, 3, 0), 30721);
        due.is("kept(3, 4, 0)", x.kept(3, 4, 0), 991);
        due.is("kept(3, 4, 1)", x.kept(3, 4, 1), 1000);
        due.is("kept(0, 0, 0)", x.kept(0, 0, 0), 1);
        due.is("kept(0, 0, 1)", x.kept(0, 0, 1), 1);
        x.set(0, 3, 0);
        due.is("twist 0", x.kept(3, 4, 0), 1);
        due.is("twist 0", x.kept(3, 4, 1), 1);
        x.set(0, 3, -3);
        due.is("the sign of twist is nothing", x.kept(3, 4, 0), 991);
        int[][] bad = {{4, 0, 0}, {-1, 0, 0}, {3, 5, 0}, {3, -1, 0}, {3, 0, 2}, {3, 0, -1}, {0, 1, 0}};
        for (int[] b : bad) {
            due.is("bad kept", x.kept(b[0], b[1], b[2]), Scenes.VOID);
        }
        YarnPlier most = Scenes.twists(0);
        for (int i = 0; i < 3; i++) {
            // by 901, 703, 901: odd, and no 5 in them
            Scenes.plied(most, i == 1 ? 99 : 33, i, i, i);
        }
        due.is("above, of depth 3", most.kept(3, 0, 0), 901L * 703 * 901);
        due.is("below, of depth 3", most.kept(3, 0, 1), 1000000000L);
    }

    private static void needs() {
        due.part("promise 13");
        YarnPlier x = Scenes.cable();
        // 100000 by 991 cut up: 101; 101000 by 992 cut up: 102
        due.is("needs(3, 0, 100)", x.needs(3, 0, 100), 102);
        due.is("needs(3, 4, 100)", x.needs(3, 4, 100), 101);
        due.is("needs(3, 4, 991): no rest", x.needs(3, 4, 991), 1000);
        due.is("needs(3, 4, 992)", x.needs(3, 4, 992), 1002);
        due.is("a rest of 1: 881000 by 991", x.needs(3, 4, 881), 890);
        due.is("needs(3, 0, 0)", x.needs(3, 0, 0), 0);
        due.is("needs(0, 0, 9999)", x.needs(0, 0, 9999), 9999);
        // the outermost first: 3000 by 604: 5; 5000 by 901: 6 (the other way about it were 4, then 7)
        YarnPlier y = Scenes.twists(0);
        Scenes.plied(y, 33, 0, 0, 0);
        Scenes.plied(y, 99, 1, 1, 1, 1);
        due.is("outermost in", y.needs(2, 0, 3), 6);
        int[][] bad = {{4, 0, 1}, {-1, 0, 1}, {3, 5, 1}, {3, -1, 1}, {3, 0, -1}, {3, 0, 10000}, {0, 1, 1}};
        for (int[] b : bad) {
            due.is("bad needs", x.needs(b[0], b[1], b[2]), -1);
        }
    }

    private static void heavy() {
        due.part("promise 14");
        YarnPlier x = Scenes.cable();
        // twice 10 * 102, twice 5 * 102, 10 * 101: 4070
        due.is("heavy(3, 100)", x.heavy(3, 100), 40);
        due.is("heavy(0, 100)", x.heavy(0, 100), 10);
        due.is("heavy(0, 19): 190 by 100", x.heavy(0, 19), 1);
        due.is("heavy(0, 9)", x.heavy(0, 9), 0);
        due.is("heavy(3, 0)", x.heavy(3, 0), 0);
        YarnPlier full = new YarnPlier();
        for (int i = 0; i < 16; i++) {
            full.thread(0, 99, 0);
        }
        due.is("99 by 100, 16 yarns", full.heavy(15, 1), 0);
        due.is("198 by 100, 16 yarns", full.heavy(15, 2), 1);
        due.is("heavy(0, 9999)", x.heavy(0, 9999), 999);
        // three of 19 together, not each cut
        YarnPlier y = new YarnPlier();
        y.thread(0, 19, 0);
        Scenes.plied(y, 0, 0, 0, 0);
        due.is("cut once", y.heavy(1, 5), 2);
        due.is("heavy(3, -1)", x.heavy(3, -1), -1);
        due.is("heavy(3, 10000)", x.heavy(3, 10000), -1);
        due.is("heavy(4, 1)", x.heavy(4, 1), -1);
        due.is("heavy(-1, 1)", x.heavy(-1, 1), -1);
    }

    public static void main(String[] args) {
        leaf();
        torque();
        tally();
        kept();
        needs();
        heavy();
        due.end();
    }
}
