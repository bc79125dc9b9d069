/** Promises 1 to 8: yarns, the bundle, what is told of them. */
public final class YarnsTest {
    private static final Due due = new Due();

    private static void newObject() {
        due.part("promise 1");
        YarnPlier x = new YarnPlier();
        for (int what = 0; what <= 6; what++) {
            due.is("count(" + what + ")", x.count(what), 0);
        }
        due.is("of(0, 0)", x.of(0, 0), Scenes.VOID);
        due.is("worst()", x.worst(), 0);
        due.is("turned()", x.turned(), -2);
        due.is("order(-1)", x.order(-1), 0);
        due.is("back()", x.back(), -5);
        due.is("undo()", x.undo(), -5);
        due.is("do1()", x.do1(), -2);
        due.is("read()", x.read(), -100);
        for (int i = 0; i < 4; i++) {
            due.is("tally(" + i + ")", x.tally(i), 0);
        }
        for (int row = 0; row < 3; row++) {
            due.is("put(" + row + ", 0, 0)", x.put(row, 0, 0), -11);
        }
        due.is("VOID", YarnPlier.VOID, -2147483648L);
        YarnPlier other = Scenes.cable();
        due.is("another's yarns", new YarnPlier().count(0), 0);
        due.is("its own", other.count(0), 4);
    }

    private static void thread() {
        due.part("promise 2");
        YarnPlier x = new YarnPlier();
        due.is("thread(0, 1, -99)", x.thread(0, 1, -99), 0);
        due.is("thread(3, 99, 99)", x.thread(3, 99, 99), 1);
        int[][] bad = {{-1, 1, 0}, {4, 1, 0}, {0, 0, 0}, {0, 100, 0}, {0, 1, -100}, {0, 1, 100},
            {Scenes.MIN, 1, 0}, {0, Scenes.MAX, 0}, {0, 1, Scenes.MIN}};
        for (int[] b : bad) {
            due.is("bad thread", x.thread(b[0], b[1], b[2]), -1);
        }
        due.is("count(0)", x.count(0), 2);
        due.is("twist", x.of(0, 0), -99);
        due.is("weight", x.of(1, 1), 99);
        due.is("fibre", x.of(1, 2), 3);
        due.is("stock", x.of(1, 3), 0);
        for (int i = 2; i < 16; i++) {
            due.is("thread " + i, x.thread(2, 5, 0), i);
        }
        due.is("a 17th", x.thread(0, 1, 0), -3);
        due.is("a bad 17th", x.thread(0, 0, 0), -1);
        due.is("count(0)", x.count(0), 16);
    }

    private static void part() {
        due.part("promise 3");
        YarnPlier x = Scenes.deep();
        due.is("part(-1)", x.part(-1), -1);
        due.is("part(4)", x.part(4), -1);
        due.is("part(3), depth 3", x.part(3), -5);
        due.is("part(2), depth 2", x.part(2), 1);
        due.is("part(2)", x.part(2), 2);
        due.is("part(0)", x.part(0), 3);
        due.is("part(1)", x.part(1), 4);
        due.is("part(0), a fifth", x.part(0), -3);
        due.is("part(3), full ahead of depth", x.part(3), -3);
        due.is("part(9), bad ahead of full", x.part(9), -1);
        due.is("count(1)", x.count(1), 4);
        due.is("ply(5)", x.ply(5), 4);
        due.is("partOf(4, 0)", x.partOf(4, 0), 2);
        due.is("partOf(4, 1)", x.partOf(4, 1), 2);
        due.is("partOf(4, 2)", x.partOf(4, 2), 0);
        due.is("partOf(4, 3)", x.partOf(4, 3), 1);
    }

    private static void ply() {
        due.part("promise 4");
        YarnPlier x = Scenes.twists(1, 2);
        due.is("ply(0), nothing there", x.ply(0), -5);
        x.part(1);
        due.is("ply(0), one there", x.ply(0), -5);
        due.is("ply(100), bad ahead of state", x.ply(100), -1);
        x.part(0);
        due.is("ply(100)", x.ply(100), -1);
        due.is("ply(-100)", x.ply(-100), -1);
        due.is("it stays", x.count(1), 2);
        due.is("ply(-99)", x.ply(-99), 2);
        due.is("nothing is there", x.count(1), 0);
        due.is("ply(1)", x.ply(1), -5);
        due.is("twist", x.of(2, 0), -99);
        due.is("stock", x.of(2, 3), 0);
        for (int i = 3; i < 16; i++) {
            due.is("ply " + i, Scenes.plied(x, 99, 0, 1), i);
        }
        x.part(0);
        due.is("one there, 16 yarns", x.ply(0), -5);
        x.part(0);
        due.is("a 17th", x.ply(0), -3);
        due.is("a bad 17th", x.ply(100), -1);
        due.is("it stays", x.count(1), 2);
    }

    private static void clear() {
        due.part("promise 5");
        YarnPlier x = Scenes.cable();
        due.is("clear() of none", new YarnPlier().clear(), 0);
        x.set(3, 0, 500);
        x.job(2, 5);
        x.lay(0, 1, 0);
        x.part(0);
        x.feed('t');
        x.row(1, 3);
        x.put(1, 2, 77);
        x.torque(3);
        x.image();
        due.is("clear()", x.clear(), 4);
        for (int what = 0; what <= 4; what++) {
            due.is("count(" + what + ")", x.count(what), 0);
        }
        due.is("back()", x.back(), -5);
        due.is("the tape stays", x.count(5), 1);
        due.is("rows stay", x.get(1, 2), 77);
        due.is("tally stays", x.tally(0), 3);
        due.is("numbers from 0 on", x.thread(1, 1, 1), 0);
        due.is("no stock of old", x.of(0, 3), 0);
        due.is("the image stays", x.undo(), 4);
        due.is("its stock", x.of(0, 3), 500);
        due.is("clear() of 16", Scenes.full().clear(), 16);
        YarnPlier twice = Scenes.full();
        twice.clear();
        due.is("clear() once more", twice.clear(), 0);
        due.is("none is part of anything", twice.part(0), -1);
        due.is("none can lie", twice.lay(0, 1, 0), -1);
        due.is("none can wait", twice.job(0, 1), -1);
        for (int i = 0; i < 16; i++) {
            due.is("room for " + i, twice.thread(0, 1, 1), i);
        }
        otherKinds();
    }

    /** Nothing of what had a number before clear() is left to the one that has it then. */
    private static void otherKinds() {
        YarnPlier x = Scenes.deep();
        x.set(3, 0, 10);
        x.set(3, 3, 10);
        x.clear();
        for (int yarn = 0; yarn < 3; yarn++) {
            x.thread(yarn, yarn + 1, yarn);
        }
        Scenes.plied(x, 5, 2, 2);
        int[][] wants = {{0, 1, 0, 0, 0, 0, 1, 1000}, {1, 2, 1, 0, 0, 0, 1, 1000}, {2, 3, 2, 0, 0, 0, 1, 1000}, {5, -1, -1, 0, 2, 1, 2, 990}};
        for (int yarn = 0; yarn < 4; yarn++) {
            for (int what = 0; what < 8; what++) {
                due.is("of(" + yarn + ", " + what + ") behind clear()", x.of(yarn, what), wants[yarn][what]);
            }
            due.is("inside", x.inside(yarn), yarn == 3 ? 12 : 1 << yarn);
            due.is("partOf(" + yarn + ", 0)", x.partOf(yarn, 0), yarn == 3 ? 2 : -2);
        }
        x.clear();
        x.thread(3, 9, 9);
        Scenes.plied(x, 1, 0, 0);
        due.is("a plied one where a thread was", x.of(1, 1), -1);
        due.is("a plied one where a thread was", x.of(1, 4), 2);
        due.is("its weight", x.set(1, 1, 5), -10000);
    }

    private static void set() {
        due.part("promise 6");
        YarnPlier x = Scenes.cable();
        due.is("twist", x.set(0, 0, -99), 20);
        due.is("twist of a plied one", x.set(0, 2, 99), -4);
        due.is("weight", x.set(1, 0, 1), 10);
        due.is("fibre", x.set(2, 0, 3), 0);
        due.is("stock", x.set(3, 0, 99999), 0);
        due.is("stock of a plied one", x.set(3, 2, 7), 0);
        due.is("twist is told", x.of(0, 0), -99);
        due.is("weight is told", x.of(0, 1), 1);
        due.is("fibre is told", x.of(0, 2), 3);
        due.is("stock is told", x.of(0, 3), 99999);
        due.is("stock of 2", x.of(2, 3), 7);
        int[][] bad = {{-1, 0, 1}, {4, 0, 1}, {0, -1, 1}, {0, 4, 1}, {0, 0, 100}, {0, 0, -100}, {1, 0, 0}, {1, 0, 100},
            {2, 0, -1}, {2, 0, 4}, {3, 0, -1}, {3, 0, 100000}, {1, 2, 100}, {2, 2, 4}, {Scenes.MIN, 0, 0}, {0, Scenes.MAX, 0}};
        for (int[] b : bad) {
            due.is("set(" + b[0] + ", " + b[1] + ", " + b[2] + ")", x.set(b[0], b[1], b[2]), Scenes.VOID);
        }
        due.is("weight of a plied one", x.set(1, 2, 5), -10000);
        due.is("fibre of a plied one", x.set(2, 2, 1), -10000);
        due.is("steps", x.count(4), 6);
        due.is("what is so already", x.set(3, 2, 7), 7);
        due.is("steps", x.count(4), 6);
    }

    private static void of() {
        due.part("promise 7");
        YarnPlier x = Scenes.cable();
        int[][] wants = {{20, 10, 0, 0, 0, 0, 1, 1000}, {-3, 5, 1, 0, 0, 0, 1, 1000},
            {-4, -1, -1, 0, 2, 1, 2, 992}, {3, -1, -1, 0, 3, 2, 5, 991}};
        for (int yarn = 0; yarn < 4; yarn++) {
            for (int what = 0; what < 8; what++) {
                due.is("of(" + yarn + ", " + what + ")", x.of(yarn, what), wants[yarn][what]);
            }
        }
        due.is("of(0, -1)", x.of(0, -1), Scenes.VOID);
        due.is("of(0, 8)", x.of(0, 8), Scenes.VOID);
        due.is("of(4, 0)", x.of(4, 0), Scenes.VOID);
        due.is("of(-1, 0)", x.of(-1, 0), Scenes.VOID);
        YarnPlier deep = Scenes.deep();
        for (int yarn = 0; yarn < 4; yarn++) {
            due.is("depth of " + yarn, deep.of(yarn, 5), yarn);
            due.is("leaves of " + yarn, deep.of(yarn, 6), yarn + 1);
        }
    }

    private static void partOf() {
        due.part("promise 8");
        YarnPlier x = Scenes.cable();
        due.is("partOf(3, 0)", x.partOf(3, 0), 2);
        due.is("partOf(3, 2)", x.partOf(3, 2), 0);
        due.is("partOf(3, 3)", x.partOf(3, 3), -2);
        due.is("partOf(2, 1)", x.partOf(2, 1), 1);
        due.is("partOf(0, 0)", x.partOf(0, 0), -2);
        due.is("partOf(0, -1)", x.partOf(0, -1), -1);
        due.is("partOf(3, MIN)", x.partOf(3, Scenes.MIN), -1);
        due.is("partOf(3, MAX)", x.partOf(3, Scenes.MAX), -2);
        due.is("partOf(4, 0)", x.partOf(4, 0), -1);
        due.is("partOf(-1, 0)", x.partOf(-1, 0), -1);
    }

    public static void main(String[] args) {
        newObject();
        thread();
        part();
        ply();
        clear();
        set();
        of();
        partOf();
        due.end();
    }
}
