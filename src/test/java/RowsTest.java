/** Promises 36 to 42: rows, films, the image, counts. */
public final class RowsTest {
    private static final Due due = new Due();

    private static void row() {
        due.part("promise 36");
        YarnPlier x = new YarnPlier();
        due.is("row(0, 0)", x.row(0, 0), 1);
        due.is("no place", x.put(0, 0, 1), -13);
        due.is("row(2, 40)", x.row(2, 40), 1);
        due.is("put(2, 39, 5)", x.put(2, 39, 5), 1);
        due.is("put(2, 0, 6)", x.put(2, 0, 6), 1);
        due.is("row(2, 41)", x.row(2, 41), -1);
        due.is("row(2, MAX)", x.row(2, Scenes.MAX), -1);
        due.is("row(2, -2)", x.row(2, -2), -14);
        due.is("row(2, MIN)", x.row(2, Scenes.MIN), -14);
        due.is("it stays", x.get(2, 39), 5);
        due.is("row(3, 1)", x.row(3, 1), -1);
        due.is("row(-1, 1)", x.row(-1, 1), -1);
        due.is("row(-1, -2)", x.row(-1, -2), -1);
        due.is("row(2, 40) anew", x.row(2, 40), 1);
        due.is("all 0", x.get(2, 39), 0);
        due.is("all 0", x.get(2, 0), 0);
        due.is("row(2, -1)", x.row(2, -1), 1);
        due.is("missing", x.put(2, 0, 1), -11);
        due.is("missing once more", x.row(2, -1), 1);
    }

    private static void put() {
        due.part("promise 37");
        YarnPlier x = new YarnPlier();
        x.row(0, 2);
        x.row(1, 3);
        due.is("put(0, 0, MIN)", x.put(0, 0, Scenes.MIN + 1), 1);
        due.is("put(0, 1, MAX)", x.put(0, 1, Scenes.MAX), 1);
        due.is("put(1, 0, 9)", x.put(1, 0, 9), 1);
        due.is("get(0, 0)", x.get(0, 0), Scenes.MIN + 1);
        due.is("get(0, 1)", x.get(0, 1), Scenes.MAX);
        due.is("get(1, 0)", x.get(1, 0), 9);
        due.is("put(0, 2, 1)", x.put(0, 2, 1), -13);
        due.is("put(0, -1, 1)", x.put(0, -1, 1), -13);
        due.is("put(2, 0, 1)", x.put(2, 0, 1), -11);
        due.is("put(2, -1, 1)", x.put(2, -1, 1), -11);
        due.is("put(3, 0, 1)", x.put(3, 0, 1), -1);
        due.is("put(-1, 0, 1)", x.put(-1, 0, 1), -1);
    }

    private static void get() {
        due.part("promise 38");
        YarnPlier x = new YarnPlier();
        x.row(1, 2);
        x.put(1, 1, -6);
        due.is("get(1, 0)", x.get(1, 0), 0);
        due.is("get(1, 1)", x.get(1, 1), -6);
        int[][] bad = {{1, 2}, {1, -1}, {0, 0}, {2, 0}, {3, 0}, {-1, 0}, {1, Scenes.MAX}, {Scenes.MIN, 0}};
        for (int[] b : bad) {
            due.is("get(" + b[0] + ", " + b[1] + ")", x.get(b[0], b[1]), Scenes.VOID);
        }
    }

    private static void film() {
        due.part("promise 39");
        YarnPlier x = Scenes.cable();
        due.is("film(1, 40, 3, 2)", x.film(1, 40, 3, 2), 40);
        for (int t = 0; t < 40; t++) {
            due.is("get(1, " + t + ")", x.get(1, t), 711 + 44 * t);
        }
        due.is("nothing else changes", x.torque(3), 535);
        x.row(2, 1);
        x.put(2, 0, 8);
        x.film(1, 40, 3, 2);
        due.is("the row behind it", x.get(2, 0), 8);
        due.is("film(2, 40, ..)", x.film(2, 40, 3, 2), 40);
        x.film(1, 2, 1, 1);
        due.is("a thread in itself", x.get(1, 1), 10);
        due.is("its size", x.get(1, 2), Scenes.VOID);
        due.is("film(0, 0, 3, 3)", x.film(0, 0, 3, 3), 0);
        due.is("a row of none", x.put(0, 0, 0), -13);
        x.row(0, -1);
        due.is("of a missing one", x.film(0, 1, 1, 1), 1);
        due.is("its place", x.get(0, 0), 0);
        due.is("film(0, 40, 1, 1)", x.film(0, 40, 1, 1), 40);
        due.is("the last: 5 of LINEN by 39", x.get(0, 39), 390);
        due.is("no 40th", x.get(0, 40), Scenes.VOID);
        due.is("not inside", x.film(1, 2, 2, 3), -5);
        due.is("it stays", x.get(1, 1), 10);
        int[][] bad = {{3, 0, 3, 3}, {-1, 0, 3, 3}, {0, -1, 3, 3}, {0, 41, 3, 3}, {0, 0, 4, 3}, {0, 0, -1, 3}, {0, 0, 3, 4}, {0, 0, 3, -1}, {0, -2, 2, 3}};
        for (int[] b : bad) {
            due.is("bad film", x.film(b[0], b[1], b[2], b[3]), -1);
        }
    }

    private static void image() {
        due.part("promise 40");
        due.is("of none", new YarnPlier().image(), 0);
        YarnPlier x = Scenes.cable();
        x.part(0);
        x.set(0, 0, 1);
        due.is("image()", x.image(), 4);
        due.is("the bundle stays", x.count(1), 1);
        due.is("steps stay", x.count(4), 1);
        x.thread(0, 1, 1);
        due.is("anew", x.image(), 5);
        x.clear();
        due.is("the latest one", x.undo(), 5);
    }

    private static void undo() {
        due.part("promise 41");
        YarnPlier x = Scenes.cable();
        due.is("there is none", x.undo(), -5);
        x.part(0);
        due.is("the bundle stays", x.undo() + x.count(1), -4);
        x.set(3, 0, 500);
        x.lay(3, 2, 1);
        x.job(2, 8);
        x.image();
        for (int round = 0; round < 2; round++) {
            change(x);
            due.is("undo()", x.undo(), 4);
            due.is("yarns", x.count(0), 4);
            due.is("twist", x.of(2, 0), -4);
            due.is("weight", x.of(0, 1), 10);
            due.is("fibre", x.of(0, 2), 0);
            due.is("stock", x.of(0, 3), 500);
            due.is("torque", x.torque(3), 535);
            due.is("parts", x.partOf(3, 2), 0);
            due.is("layers", x.count(2), 1);
            due.is("skew", x.skew(1), -1070);
            due.is("jobs", x.count(3), 1);
            due.is("job", x.jobOf(0, 1), 8);
            due.is("the bundle", x.count(1), 0);
            due.is("steps", x.count(4), 0);
            due.is("the tape stays", x.wipe(), 1);
            due.is("rows stay", x.get(0, 0), 5);
        }
        x.clear();
        due.is("behind clear()", x.undo(), 4);
    }

    private static void change(YarnPlier x) {
        x.clear();
        x.thread(3, 7, 7);
        x.thread(3, 7, 7);
        Scenes.plied(x, 7, 1, 1, 1);
        Scenes.plied(x, 7, 1, 1, 1, 1);
        Scenes.plied(x, 7, 0, 1);
        x.set(3, 1, 9999);
        x.lay(0, 1, 0);
        x.lay(1, 1, 0);
        x.job(2, 1);
        x.job(3, 1);
        x.part(4);
        x.feed('t');
        x.row(0, 1);
        x.put(0, 0, 5);
    }

    private static void count() {
        due.part("promise 42");
        YarnPlier x = Scenes.cable();
        x.thread(0, 9, 0);
        x.thread(2, 1, 1);
        x.thread(0, 1, 3);
        x.thread(0, 2, 0);
        x.thread(0, 2, -2);
        Scenes.plied(x, 1, 7, 8);
        x.part(0);
        x.part(1);
        x.lay(0, 1, 1);
        x.lay(0, 1, 1);
        x.lay(0, 1, 1);
        x.job(2, 1);
        x.job(2, 2);
        x.job(2, 3);
        x.job(2, 4);
        x.set(3, 0, 1);
        x.feed(';');
        x.feed(';');
        x.feed(';');
        x.feed(';');
        x.feed(';');
        x.torque(3);
        // balanced are 4, 5 and 7; in 9 turns 1, 1, -1 pull 2, 2, -2
        int[] wants = {10, 2, 3, 4, 1, 5, 3};
        for (int what = 0; what <= 6; what++) {
            due.is("count(" + what + ")", x.count(what), wants[what]);
        }
        // 2, 2, -4
        x.set(0, 8, -3);
        due.is("count(6): 9 is balanced", x.count(6), 4);
        due.is("tally stays", x.tally(0), 3);
        x.set(0, 0, 0);
        due.is("count(6): 0 is balanced", x.count(6), 5);
        due.is("count(7)", x.count(7), -1);
        due.is("count(-1)", x.count(-1), -1);
    }

    public static void main(String[] args) {
        row();
        put();
        get();
        film();
        image();
        undo();
        count();
        due.end();
    }
}
