/** Promises 15 to 20: balance, plans, what can be made, yarns alike, what is inside, making. */
public final class AskedTest {
    private static final Due due = new Due();

    private static void balance() {
        due.part("promise 15");
        YarnPlier x = Scenes.cable();
        // torque of 3 by twist t of 2: 711 + 44 t
        due.is("balance(3, 2, 0)", x.balance(3, 2, 0), -16);
        due.is("balance(3, 2, 1)", x.balance(3, 2, 1), 7);
        // by twist t of 0: 9, twice -2, -40 and 10 (t - 1), 10 (t + 3): 30 t - 65
        due.is("balance(3, 0, 0)", x.balance(3, 0, 0), 2);
        due.is("balance(3, 0, 1)", x.balance(3, 0, 1), -5);
        due.is("nothing changes", x.torque(3), 535);
        due.is("nothing changes", x.of(2, 0), -4);
        due.is("no step", x.count(4), 0);
        due.is("a thread in itself", x.balance(1, 1, 0), 0);
        due.is("not inside", x.balance(2, 3, 0), -10000000);
        due.is("not inside", x.balance(0, 1, 1), -10000000);
        due.is("bad ahead of not inside", x.balance(0, 1, 2), Scenes.VOID);
        int[][] bad = {{4, 0, 0}, {-1, 0, 0}, {3, 4, 0}, {3, -1, 0}, {3, 0, -1}, {3, 0, 2}};
        for (int[] b : bad) {
            due.is("bad balance", x.balance(b[0], b[1], b[2]), Scenes.VOID);
        }
        // 2 of twist 1 in one of twist t: 2 + 4 t, 2 by 0 and -2 by -1
        YarnPlier like = Scenes.twists(1, -1, 3, -3);
        Scenes.plied(like, 50, 0, 0);
        Scenes.plied(like, 50, 1, 1);
        Scenes.plied(like, 50, 2, 2);
        Scenes.plied(like, 50, 3, 3);
        int[] twists = {0, 0, -1, 1};
        int[] torques = {2, -2, 2, -2};
        for (int i = 0; i < 4; i++) {
            due.is("of like ones, twist " + i, like.balance(4 + i, 4 + i, 0), twists[i]);
            due.is("of like ones, torque " + i, like.balance(4 + i, 4 + i, 1), torques[i]);
        }
        YarnPlier edge = new YarnPlier();
        edge.thread(0, 99, 99);
        edge.thread(0, 1, 0);
        Scenes.plied(edge, 0, 0, 1);
        due.is("the least twist", edge.balance(2, 1, 0), -99);
        due.is("its torque", edge.balance(2, 1, 1), 9801 - 99);
        edge.set(0, 0, -99);
        due.is("the greatest twist", edge.balance(2, 1, 0), 99);
    }

    private static void plan() {
        due.part("promise 16");
        YarnPlier x = Scenes.cable();
        // twist 0: 20, 30, 40
        int[][] rows = {{0, 0, 2, 20}, {0, 25, 2, 20}, {0, 26, 3, 30}, {0, 35, 3, 30}, {0, 36, 4, 40}, {0, 9999, 4, 40},
            // twist 99: 125 yards each: 25; 143: 42; 166: 66
            {99, 33, 2, 25}, {99, 34, 3, 42}, {-99, 42, 3, 42}, {-99, 54, 3, 42}, {-99, 55, 4, 66}};
        for (int[] r : rows) {
            due.is("plan(0, " + r[0] + ", " + r[1] + ", 0)", x.plan(0, r[0], r[1], 0), r[2]);
            due.is("plan(0, " + r[0] + ", " + r[1] + ", 1)", x.plan(0, r[0], r[1], 1), r[3]);
        }
        due.is("nothing comes", x.count(0), 4);
        int[][] bad = {{2, 0, 0, 0}, {4, 0, 0, 0}, {-1, 0, 0, 0}, {0, 100, 0, 0}, {0, -100, 0, 0}, {0, 0, -1, 0},
            {0, 0, 10000, 0}, {0, 0, 0, 2}, {0, 0, 0, -1}};
        for (int[] b : bad) {
            due.is("bad plan", x.plan(b[0], b[1], b[2], b[3]), -1);
        }
        for (int i = 0; i < 12; i++) {
            x.thread(0, 1, 1);
        }
        due.is("with 16 yarns, too", x.plan(0, 0, 20, 0), 2);
    }

    private static void can() {
        due.part("promise 17");
        YarnPlier x = Scenes.cable();
        due.is("can(3), no stock", x.can(3), 0);
        x.set(3, 0, 1000);
        due.is("can(3), none of one", x.can(3), 0);
        x.set(3, 1, 1000);
        // 328 yards: 331, then 334 and 334: 999
        due.is("can(3)", x.can(3), 328);
        x.set(3, 0, 998);
        due.is("can(3), 998", x.can(3), 327);
        x.set(3, 2, 500);
        due.is("stock of its parts does not matter", x.can(3), 327);
        x.set(3, 0, 99999);
        x.set(3, 1, 667);
        due.is("the other one lacks", x.can(3), 327);
        x.set(3, 1, 99999);
        due.is("9999 at most", x.can(3), 9999);
        x.set(3, 3, 99990);
        due.is("its own stock", x.can(3), 9);
        x.set(3, 3, 99999);
        due.is("its own stock is full", x.can(3), 0);
        x.set(3, 3, 90000);
        due.is("9999 more", x.can(3), 9999);
        x.set(3, 3, 90001);
        due.is("9998 more", x.can(3), 9998);
        sweep();
        due.is("can(0)", x.can(0), -5);
        due.is("can(4)", x.can(4), -1);
        due.is("can(-1)", x.can(-1), -1);
    }

    /** Two threads of one kind without twist: half of what there is. */
    private static void sweep() {
        YarnPlier x = Scenes.twists(0);
        Scenes.plied(x, 0, 0, 0);
        for (int i = 0; i < 200; i++) {
            int stock = i < 60 ? i : i * 107;
            x.set(3, 0, stock);
            due.is("can(1) of " + stock, x.can(1), Math.min(9999, stock / 2));
        }
    }

    private static void alike() {
        due.part("promise 18");
        YarnPlier x = new YarnPlier();
        x.thread(0, 10, 20);
        x.thread(0, 10, 20);
        x.thread(0, 10, -20);
        x.thread(1, 10, 20);
        x.thread(0, 11, 20);
        x.thread(0, 10, 0);
        int[][] wants = {{0, 0, 1, 0}, {0, 1, 1, 0}, {0, 2, 0, 1}, {2, 0, 0, 1}, {0, 3, 0, 0}, {0, 4, 0, 0}, {5, 5, 1, 1}, {2, 3, 0, 0}, {2, 4, 0, 0}};
        ask(x, wants);
        Scenes.plied(x, 7, 0, 2); // 6
        Scenes.plied(x, 7, 1, 2); // 7
        Scenes.plied(x, -7, 2, 1); // 8
        Scenes.plied(x, 7, 2, 0); // 9
        Scenes.plied(x, 7, 0, 2, 2); // 10
        Scenes.plied(x, 8, 0, 2); // 11
        Scenes.plied(x, 0, 6, 9); // 12
        Scenes.plied(x, 0, 7, 9); // 13
        Scenes.plied(x, 0, 8, 8); // 14
        Scenes.plied(x, 7, 3, 2); // 15
        int[][] plied = {{6, 7, 1, 0}, {6, 8, 0, 1}, {6, 9, 0, 0}, {8, 9, 0, 0}, {6, 10, 0, 0}, {10, 6, 0, 0}, {6, 11, 0, 0},
            {12, 13, 1, 0}, {12, 14, 0, 0}, {0, 6, 0, 0}, {6, 0, 0, 0}, {12, 6, 0, 0}, {6, 15, 0, 0}, {15, 6, 0, 0}};
        ask(x, plied);
        int[][] bad = {{-1, 0, 0}, {16, 0, 0}, {0, -1, 0}, {0, 16, 0}, {0, 0, 2}, {0, 0, -1}};
        for (int[] b : bad) {
            due.is("bad alike", x.alike(b[0], b[1], b[2]), -1);
        }
        YarnPlier deep = Scenes.deep();
        deep.thread(0, 1, -1);
        Scenes.plied(deep, -1, 4, 4);
        Scenes.plied(deep, -1, 5, 4);
        Scenes.plied(deep, -1, 6, 4);
        Scenes.plied(deep, -1, 6, 0);
        int[][] deepest = {{3, 3, 1, 0}, {3, 7, 0, 1}, {7, 3, 0, 1}, {3, 8, 0, 0}, {7, 8, 0, 0}, {2, 6, 0, 1}, {3, 2, 0, 0}};
        ask(deep, deepest);
    }

    private static void ask(YarnPlier x, int[][] wants) {
        for (int[] w : wants) {
            due.is("alike(" + w[0] + ", " + w[1] + ", 0)", x.alike(w[0], w[1], 0), w[2]);
            due.is("alike(" + w[0] + ", " + w[1] + ", 1)", x.alike(w[0], w[1], 1), w[3]);
        }
    }

    private static void inside() {
        due.part("promise 19");
        YarnPlier x = Scenes.cable();
        x.thread(0, 1, 1);
        Scenes.plied(x, 1, 4, 1);
        int[] wants = {1, 2, 7, 15, 16, 50};
        for (int i = 0; i < 6; i++) {
            due.is("inside(" + i + ")", x.inside(i), wants[i]);
        }
        due.is("inside(6)", x.inside(6), -1);
        due.is("inside(-1)", x.inside(-1), -1);
    }

    private static void make() {
        due.part("promise 20");
        YarnPlier x = Scenes.cable();
        x.set(3, 0, 1000);
        x.set(3, 1, 1000);
        x.set(3, 2, 50);
        due.is("too many", x.make(3, 329), -5);
        due.is("nothing changes", x.of(0, 3), 1000);
        due.is("steps stay", x.count(4), 3);
        due.is("make(3, 328)", x.make(3, 328), 328);
        due.is("stock of 0", x.of(0, 3), 1);
        due.is("stock of 1: twice 334 less", x.of(1, 3), 332);
        due.is("stock of a plied part", x.of(2, 3), 50);
        due.is("steps", x.count(4), 0);
        x.set(3, 0, 99999);
        due.is("make(2, 1)", x.make(2, 1), 51);
        due.is("2 of each: 1000 by 992 cut up", x.of(0, 3), 99997);
        due.is("2 of each", x.of(1, 3), 330);
        x.set(3, 2, 99998);
        due.is("above 99999", x.make(2, 2), -5);
        due.is("up to 99999", x.make(2, 1), 99999);
        x.set(0, 2, 3);
        due.is("a thread", x.make(0, 5), -5);
        due.is("bad yards of a thread", x.make(0, 0), -1);
        due.is("make(3, 0)", x.make(3, 0), -1);
        due.is("make(3, 10000)", x.make(3, 10000), -1);
        due.is("make(3, -1)", x.make(3, -1), -1);
        due.is("make(4, 5)", x.make(4, 5), -1);
        due.is("make(-1, 5)", x.make(-1, 5), -1);
        due.is("steps stay", x.count(4), 1);
        x.set(3, 1, 99999);
        due.is("make(3, 9999)", x.make(3, 9999), 328 + 9999);
        YarnPlier widest = Scenes.widest();
        widest.thread(0, 1, 1);
        widest.thread(0, 1, 1);
        Scenes.plied(widest, 0, 13, 14);
        for (int i = 0; i < 16; i++) {
            widest.set(3, i, 10);
        }
        due.is("16 yarns", widest.make(15, 10), 20);
        due.is("16 yarns", widest.of(13, 3), 0);
        due.is("16 yarns", widest.of(0, 3), 10);
        due.is("16 yarns: one lacks", widest.make(15, 1), -5);
    }

    public static void main(String[] args) {
        balance();
        plan();
        can();
        alike();
        inside();
        make();
        due.end();
    }
}
