/** The document's first part, "YARNS" and "Terms", sentence by sentence: what each says of its edges. */
public final class Part1WordsTest {
    private static final Due due = new Due();

    private static YarnPlier one(int fibre, int weight, int twist) {
        YarnPlier x = new YarnPlier();
        x.thread(fibre, weight, twist);
        return x;
    }

    private static void numbers() {
        due.part("YARNS have numbers from 0 on, as they come (16 at most; none at first).");
        YarnPlier x = new YarnPlier();
        due.is("none at first", x.count(0), 0);
        due.is("not even 0", x.of(0, 0), Scenes.VOID);
        due.is("a THREAD", x.thread(0, 1, 1), 0);
        due.is("by a text", Scenes.text(x, "t1,2,2"), 1);
        due.is("a PLIED one", Scenes.plied(x, 3, 0, 1), 2);
        due.is("by a text", Scenes.text(x, "p0,2:4"), 1);
        for (int yarn = 0; yarn < 4; yarn++) {
            due.is("as they come", x.of(yarn, 0), yarn + 1);
        }
        for (int yarn = 4; yarn < 16; yarn++) {
            due.is("as they come", x.thread(0, 1, 1), yarn);
        }
        x.part(0);
        x.part(1);
        due.is("a 17th, thread()", x.thread(0, 1, 1), -3);
        due.is("a 17th, ply()", x.ply(1), -3);
        due.is("a 17th, t", Scenes.text(x, "t0,1,1"), -200);
        due.is("a 17th, p", Scenes.text(x, "p0,1:1"), -200);
        due.is("16 at most", x.count(0), 16);
        due.is("no 16", x.of(16, 0), Scenes.VOID);
        x.clear();
        due.is("from 0 on, behind clear()", x.thread(0, 1, 1), 0);
    }

    private static void threads() {
        due.part("A THREAD: a FIBRE (0 WOOL, 1 LINEN, 2 SILK, 3 HEMP), a WEIGHT (1 .. 99), a TWIST (-99 .. 99).");
        int[][] good = {{0, 1, -99}, {3, 99, 99}, {1, 1, 0}, {2, 50, -1}};
        for (int[] g : good) {
            YarnPlier x = one(g[0], g[1], g[2]);
            due.is("as text", Scenes.text(x, "t" + g[0] + "," + g[1] + "," + g[2]), 1);
            for (int yarn = 0; yarn < 2; yarn++) {
                due.is("fibre", x.of(yarn, 2), g[0]);
                due.is("weight", x.of(yarn, 1), g[1]);
                due.is("twist", x.of(yarn, 0), g[2]);
            }
        }
        int[][] bad = {{-1, 1, 0}, {4, 1, 0}, {0, 0, 0}, {0, -1, 0}, {0, 100, 0}, {0, 1, -100}, {0, 1, 100}};
        for (int[] b : bad) {
            YarnPlier x = new YarnPlier();
            due.is("beyond", x.thread(b[0], b[1], b[2]), -1);
            due.is("beyond: none comes", x.count(0), 0);
        }
        String[] texts = {"t4,1,0", "t0,0,0", "t0,100,0", "t0,1,-100", "t0,1,100", "t99999,1,0", "t0,99999,0", "t0,1,99999", "t0,1,-99999"};
        for (String text : texts) {
            due.is(text, Scenes.text(new YarnPlier(), text), -200);
        }
    }

    private static void plied() {
        due.part("A PLIED one: 2 to 4 PARTS (YARNS there are already; one may be there more than once), a TWIST (likewise).");
        for (int parts = 2; parts <= 4; parts++) {
            YarnPlier x = Scenes.twists(1);
            due.is("the same " + parts + " times", Scenes.plied(x, 99, new int[parts]), 1);
            due.is("its PARTS", x.of(1, 4), parts);
            due.is("the last", x.partOf(1, parts - 1), 0);
            due.is("no more", x.partOf(1, parts), -2);
        }
        YarnPlier x = Scenes.twists(1, 2);
        due.is("no PARTS", x.ply(0), -5);
        due.is("one that is not there", x.part(2), -1);
        x.part(1);
        due.is("1 PART", x.ply(0), -5);
        x.part(0);
        x.part(1);
        x.part(1);
        due.is("a fifth", x.part(0), -3);
        due.is("twist 100", x.ply(100), -1);
        due.is("twist -100", x.ply(-100), -1);
        due.is("twist -99", x.ply(-99), 2);
        due.is("of(2, 0)", x.of(2, 0), -99);
        due.is("1 PART in a text", Scenes.text(x, "p0:1"), -102);
        due.is("5 PARTS in a text", Scenes.text(x, "p0,0,0,0,0:1"), -108);
        due.is("the one to come itself", Scenes.text(x, "p0,3:1"), -200);
        due.is("twist 100 in a text", Scenes.text(x, "p0,0:100"), -200);
        due.is("twist -100 in a text", Scenes.text(x, "p0,0:-100"), -200);
        due.is("twist 99 in a text", Scenes.text(x, "p0,0:99"), 1);
        due.is("none came by what was refused", x.count(0), 4);
    }

    private static void depth() {
        due.part("DEPTH of a THREAD: 0; of a PLIED one: 1 more than the greatest of its PARTS, 3 at most.");
        YarnPlier x = Scenes.twists(1);
        due.is("of a THREAD", x.of(0, 5), 0);
        Scenes.plied(x, 0, 0, 0);
        Scenes.plied(x, 0, 0, 1);
        Scenes.plied(x, 0, 1, 0);
        Scenes.plied(x, 0, 0, 2, 1, 0);
        Scenes.plied(x, 0, 3, 0, 0, 0);
        int[] depths = {0, 1, 2, 2, 3, 3};
        for (int yarn = 0; yarn < 6; yarn++) {
            due.is("depth of " + yarn, x.of(yarn, 5), depths[yarn]);
        }
        due.is("3 at most", x.part(4), -5);
        due.is("3 at most", x.part(5), -5);
        due.is("3 at most, in a text", Scenes.text(x, "p0,4:0"), -200);
        due.is("3 at most, in a text", Scenes.text(x, "p4,0:0"), -200);
        due.is("3 at most, in a text", Scenes.text(x, "p0,0,0,5:0"), -200);
        due.is("of DEPTH 2, in a text", Scenes.text(x, "p3,2:0"), 1);
        due.is("that is 3", x.of(6, 5), 3);
    }

    private static void stock() {
        due.part("STOCK of each: 0 .. 99999 yards (0 at first).");
        YarnPlier x = Scenes.twists(1);
        Scenes.plied(x, 0, 0, 0);
        Scenes.text(x, "t0,1,1;p0,0:0");
        for (int yarn = 0; yarn < 4; yarn++) {
            due.is("0 at first", x.of(yarn, 3), 0);
            due.is("99999", x.set(3, yarn, 99999), 0);
            due.is("100000", x.set(3, yarn, 100000), Scenes.VOID);
            due.is("-1", x.set(3, yarn, -1), Scenes.VOID);
            due.is("it stays", x.of(yarn, 3), 99999);
            due.is("0", x.set(3, yarn, 0), 99999);
            due.is("99999 in a text", Scenes.text(x, "s" + yarn + ",99999"), 1);
            due.is("100000 in a text", Scenes.text(x, "s" + yarn + ",100000"), -108);
            due.is("it stays", x.of(yarn, 3), 99999);
        }
        x.clear();
        x.thread(0, 1, 1);
        Scenes.plied(x, 0, 0, 0);
        due.is("0 at first, behind clear()", x.of(0, 3), 0);
        due.is("0 at first, behind clear()", x.of(1, 3), 0);
    }

    private static void leaves() {
        due.part("LEAVES of a YARN: of a THREAD itself; of a PLIED one those of its PARTS, one PART behind another (64 at most), numbered from 0 on.");
        YarnPlier x = Scenes.widest();
        due.is("of a THREAD", x.of(2, 6), 1);
        due.is("itself", x.leaf(2, 0, 0), 2);
        due.is("no other", x.leaf(2, 1, 0), Scenes.VOID);
        due.is("64 at most", x.of(12, 6), 64);
        for (int i = 0; i < 64; i++) {
            due.is("leaf " + i, x.leaf(12, i, 0), i % 4);
        }
        due.is("no 64th", x.leaf(12, 64, 0), Scenes.VOID);
        due.is("no -1st", x.leaf(12, -1, 0), Scenes.VOID);
        YarnPlier y = Scenes.twists(1, 2, 3);
        Scenes.plied(y, 0, 2, 1);
        Scenes.plied(y, 0, 0, 3, 0);
        int[] behind = {0, 2, 1, 0};
        for (int i = 0; i < 4; i++) {
            due.is("one PART behind another, " + i, y.leaf(4, i, 0), behind[i]);
        }
        due.is("no more", y.leaf(4, 4, 0), Scenes.VOID);
    }

    private static void turn() {
        due.part("TURN of what is within a YARN (and of itself): its own TWIST, and TWISTS of all PLIED ones around it, that YARN with them, together.");
        for (int twist = -99; twist <= 99; twist += 198) {
            YarnPlier x = Scenes.twists(twist);
            for (int i = 0; i < 3; i++) {
                Scenes.plied(x, twist, i, i);
            }
            for (int yarn = 0; yarn < 4; yarn++) {
                due.is("in " + yarn, x.leaf(yarn, 0, 1), (yarn + 1) * twist);
            }
        }
        YarnPlier x = Scenes.twists(99);
        Scenes.plied(x, -99, 0, 0);
        due.is("they undo one another", x.leaf(1, 1, 1), 0);
        due.is("what is around a YARN that is asked itself does not matter", x.leaf(0, 0, 1), 99);
    }

    /** weight, turn, pull */
    private static void pulls(int fibre, int[][] rows) {
        for (int[] r : rows) {
            due.is("weight " + r[0] + " by " + r[1], one(fibre, r[0], r[1]).torque(0), r[2]);
        }
    }

    private static void pull() {
        due.part("PULL by TURN r: of a THREAD of WEIGHT w: WOOL: w times r.");
        pulls(0, new int[][] {{1, 0, 0}, {1, 1, 1}, {1, -1, -1}, {99, 99, 9801}, {99, -99, -9801}});
        due.part("LINEN: twice w times r.");
        pulls(1, new int[][] {{7, 0, 0}, {1, 1, 2}, {1, -1, -2}, {99, 99, 19602}, {99, -99, -19602}});
        due.part("SILK: w times r by 2 (cut toward 0).");
        pulls(2, new int[][] {{1, 0, 0}, {1, 1, 0}, {1, -1, 0}, {1, 2, 1}, {1, -2, -1}, {3, 3, 4}, {3, -3, -4}, {2, 7, 7}, {99, 99, 4900}, {99, -99, -4900}});
        // each leaf is cut on its own: 3 by 2 twice, not 6 by 2
        YarnPlier silk = one(2, 1, 3);
        Scenes.plied(silk, 0, 0, 0);
        due.is("each cut", silk.torque(1), 2);
        silk.set(0, 0, -3);
        due.is("each cut toward 0", silk.torque(1), -2);
        hemp();
        due.part("Of a PLIED one: r times how many PARTS it has.");
        for (int parts = 2; parts <= 4; parts++) {
            YarnPlier x = Scenes.twists(-99);
            Scenes.plied(x, 99, new int[parts]);
            due.is("by 99", x.torque(1), 99 * parts);
            x.set(0, 0, 99);
            x.set(0, 1, -99);
            due.is("by -99", x.torque(1), -99 * parts);
            x.set(0, 0, 0);
            x.set(0, 1, 0);
            due.is("by 0", x.torque(1), 0);
        }
    }

    private static void hemp() {
        due.part("HEMP: w times r, and w times what r is beyond 20 (or below -20) more: by r 25: 25 w and 5 w; by r -25: as much below 0.");
        pulls(3, new int[][] {{5, 0, 0}, {1, 19, 19}, {1, 20, 20}, {1, 21, 22}, {1, -19, -19}, {1, -20, -20}, {1, -21, -22},
            {7, 25, 175 + 35}, {7, -25, -175 - 35}, {99, 20, 1980}, {99, 99, 9801 + 99 * 79}, {99, -99, -9801 - 99 * 79}});
        // its own 10, and that of what is around it; a PLIED one of 2 pulls twice its own
        int[][] turns = {{10, 20 + 2 * 20}, {11, 22 + 2 * 22}, {-30, -60 - 2 * 20}, {-31, -62 - 2 * 22}};
        YarnPlier x = one(3, 1, 10);
        Scenes.plied(x, 0, 0, 0);
        for (int[] t : turns) {
            x.set(0, 1, t[0]);
            due.is("by two twists, 10 and " + t[0], x.torque(1), t[1]);
        }
    }

    private static void torque() {
        due.part("TORQUE of a YARN: PULLS of all that is within, each as often as it is there, and of itself, together.");
        YarnPlier x = Scenes.twists(5);
        due.is("of a THREAD its own", x.torque(0), 5);
        Scenes.plied(x, 0, 0, 0, 0, 0);
        due.is("four times", x.torque(1), 20);
        Scenes.plied(x, 1, 1, 0, 1);
        // 3; 1 times 4 twice; 6 nine times
        due.is("within what is there twice, too", x.torque(2), 3 + 8 + 54);
        YarnPlier most = one(3, 99, 99);
        for (int i = 0; i < 3; i++) {
            Scenes.plied(most, 99, i, i, i, i);
        }
        int leaf = 99 * 396 + 99 * 376;
        due.is("the greatest of HEMP", most.torque(3), 64 * leaf + 16 * 4 * 297 + 4 * 4 * 198 + 4 * 99);
    }

    private static void by() {
        due.part("BY of a PLIED one: 1000 less its TWIST (without its sign) times how many PARTS it has.");
        for (int parts = 2; parts <= 4; parts++) {
            YarnPlier x = Scenes.twists(50);
            Scenes.plied(x, 0, new int[parts]);
            due.is("by 0", x.of(1, 7), 1000);
            x.set(0, 1, 99);
            due.is("by 99", x.of(1, 7), 1000 - 99 * parts);
            x.set(0, 1, -99);
            due.is("by -99", x.of(1, 7), 1000 - 99 * parts);
            x.set(0, 1, -1);
            due.is("by -1", x.of(1, 7), 1000 - parts);
        }
    }

    private static void kept() {
        due.part("KEPT of a LEAF in a YARN: BY of all PLIED ones around it, multiplied, by 1000 as often multiplied (1 by 1 of a THREAD in itself).");
        YarnPlier x = Scenes.twists(99);
        due.is("of a THREAD", x.kept(0, 0, 0), 1);
        due.is("of a THREAD", x.kept(0, 0, 1), 1);
        for (int i = 0; i < 3; i++) {
            Scenes.plied(x, 99, i, i, i, i);
        }
        // 604 is 4 times 151, 1000 is 4 times 250
        long[] above = {1, 151, 151 * 151, 151L * 151 * 151};
        long[] below = {1, 250, 250 * 250, 250L * 250 * 250};
        for (int yarn = 1; yarn < 4; yarn++) {
            due.is("the least, above", x.kept(yarn, 0, 0), above[yarn]);
            due.is("the least, below", x.kept(yarn, 0, 1), below[yarn]);
        }
        due.is("the last leaf", x.kept(3, 63, 1), below[3]);
        for (int yarn = 1; yarn < 4; yarn++) {
            x.set(0, yarn, 0);
        }
        due.is("by twists of 0, above", x.kept(3, 0, 0), 1);
        due.is("by twists of 0, below", x.kept(3, 0, 1), 1);
        x.set(0, 1, 1);
        due.is("996 by 1000", x.kept(3, 0, 0), 249);
        due.is("996 by 1000", x.kept(3, 0, 1), 250);
        Scenes.plied(x, 1, 0, 0, 0);
        due.is("997 by 1000", x.kept(4, 2, 0), 997);
        due.is("997 by 1000", x.kept(4, 2, 1), 1000);
    }

    private static void needs() {
        due.part("NEEDS of a LEAF for L yards of a YARN: L, through each PLIED one from the outermost in: that times 1000 by its BY (cut up).");
        YarnPlier x = Scenes.twists(99);
        due.is("of a THREAD L", x.needs(0, 0, 9999), 9999);
        due.is("of a THREAD 0", x.needs(0, 0, 0), 0);
        for (int i = 0; i < 3; i++) {
            Scenes.plied(x, 99, i, i, i, i);
        }
        due.is("0 yards need none", x.needs(3, 63, 0), 0);
        // 1000 by 604: 2; 2000 by 604: 4; 4000 by 604: 7
        int[] ofOne = {1, 2, 4, 7};
        // 9999000 by 604: 16554 and a rest; 16555000: 27408 and a rest; 27409000: 45379 and a rest
        int[] ofMost = {9999, 16555, 27409, 45380};
        for (int yarn = 0; yarn < 4; yarn++) {
            due.is("1 yard of " + yarn, x.needs(yarn, 0, 1), ofOne[yarn]);
            due.is("9999 yards of " + yarn, x.needs(yarn, 0, 9999), ofMost[yarn]);
        }
        due.is("without a rest", x.needs(1, 0, 604), 1000);
        due.is("without a rest", x.needs(1, 3, 1208), 2000);
        due.is("a rest is cut up", x.needs(1, 0, 605), 1002);
        x.set(0, 1, 0);
        due.is("by twist 0 as many", x.needs(1, 0, 9999), 9999);
    }

    private static void heavy() {
        due.part("HEAVY are L yards: of all LEAVES WEIGHT times NEEDS, together, by 100 (cut).");
        YarnPlier x = one(0, 1, 0);
        int[][] cut = {{0, 0}, {99, 0}, {100, 1}, {199, 1}, {200, 2}, {9999, 99}};
        for (int[] c : cut) {
            due.is(c[0] + " yards of weight 1", x.heavy(0, c[0]), c[1]);
        }
        YarnPlier most = one(0, 99, 0);
        for (int i = 0; i < 3; i++) {
            Scenes.plied(most, 99, i, i, i, i);
        }
        due.is("the heaviest", most.heavy(3, 9999), 64L * 99 * 45380 / 100);
        due.is("none of 64 leaves", most.heavy(3, 0), 0);
        // 49 twice is 98, 50 twice is 100
        Scenes.plied(x, 0, 0, 0);
        due.is("98 together", x.heavy(1, 49), 0);
        due.is("100 together", x.heavy(1, 50), 1);
    }

    private static void make() {
        due.part("TO MAKE L yards (1 .. 9999) of a PLIED one: STOCK of each THREAD is less by NEEDS of all LEAVES that it is; STOCK of the PLIED one is L more.");
        YarnPlier x = Scenes.twists(0, 0);
        Scenes.plied(x, 0, 0, 1, 0);
        x.set(3, 0, 3);
        x.set(3, 1, 2);
        due.is("4 of 3", x.make(2, 2), -5);
        due.is("2 of 3, 1 of 2", x.make(2, 1), 1);
        due.is("less by both leaves", x.of(0, 3), 1);
        due.is("less by one leaf", x.of(1, 3), 1);
        due.is("2 of 1", x.make(2, 1), -5);
        x.set(3, 0, 2);
        due.is("2 of 2, 1 of 1", x.make(2, 1), 2);
        due.is("down to 0", x.of(0, 3), 0);
        due.is("down to 0", x.of(1, 3), 0);
        x.set(3, 0, 19998);
        x.set(3, 1, 9999);
        due.is("0 yards", x.make(2, 0), -1);
        due.is("10000 yards", x.make(2, 10000), -1);
        due.is("9999 yards", x.make(2, 9999), 10001);
        due.is("down to 0", x.of(0, 3), 0);
        x.set(3, 0, 99999);
        due.is("none of the other", x.make(2, 1), -5);
        due.is("the first is not less by it", x.of(0, 3), 99999);
    }

    private static void pliedParts() {
        due.part("(STOCK of its PLIED PARTS does not matter.)");
        YarnPlier x = Scenes.twists(0);
        Scenes.plied(x, 0, 0, 0);
        Scenes.plied(x, 0, 1, 1);
        x.set(3, 1, 99999);
        due.is("none of the THREAD, many of the PART", x.make(2, 1), -5);
        due.is("can()", x.can(2), 0);
        x.set(3, 0, 4);
        x.set(3, 1, 0);
        due.is("none of the PART", x.can(2), 1);
        due.is("none of the PART", x.make(2, 1), 1);
        due.is("none is less than 0", x.of(1, 3), 0);
        x.set(3, 0, 4);
        x.set(3, 1, 99999);
        due.is("a PART's is not less", x.make(2, 1) + x.of(1, 3), 2 + 99999);
    }

    public static void main(String[] args) {
        numbers();
        threads();
        plied();
        depth();
        stock();
        leaves();
        turn();
        pull();
        torque();
        by();
        kept();
        needs();
        heavy();
        make();
        pliedParts();
        due.end();
    }
}
