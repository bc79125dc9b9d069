/** Benches that several tests begin with. Their numbers are reckoned by hand in the tests. */
final class Scenes {
    static final int VOID = YarnPlier.VOID;
    static final int MIN = Integer.MIN_VALUE, MAX = Integer.MAX_VALUE;

    private Scenes() {
    }

    /** 0 WOOL 10 twist 20; 1 LINEN 5 twist -3; 2 of (0, 1) twist -4; 3 of (2, 2, 0) twist 3. */
    static YarnPlier cable() {
        YarnPlier x = new YarnPlier();
        x.thread(0, 10, 20);
        x.thread(1, 5, -3);
        plied(x, -4, 0, 1);
        plied(x, 3, 2, 2, 0);
        return x;
    }

    /** Threads of WOOL of weight 1: the torque of each is its twist. */
    static YarnPlier twists(int... twists) {
        YarnPlier x = new YarnPlier();
        for (int twist : twists) {
            x.thread(0, 1, twist);
        }
        return x;
    }

    static int plied(YarnPlier x, int twist, int... parts) {
        for (int part : parts) {
            x.part(part);
        }
        return x.ply(twist);
    }

    /** 0 WOOL, then plied ones of depth 1, 2, 3 behind it: 1, 2, 3. */
    static YarnPlier deep() {
        YarnPlier x = twists(1);
        plied(x, 1, 0, 0);
        plied(x, 1, 1, 0);
        plied(x, 1, 2, 0);
        return x;
    }

    /** 4 threads, 4 of depth 1, 4 of depth 2, and 12: 85 places, no two parts of one place alike. */
    static YarnPlier widest() {
        YarnPlier x = twists(1, 10, -7, 30);
        for (int level = 0; level < 2; level++) {
            for (int i = 0; i < 4; i++) {
                plied(x, 5 * i - 8 + level, 4 * level, 4 * level + 1, 4 * level + 2, 4 * level + 3);
            }
        }
        plied(x, 2, 8, 9, 10, 11);
        return x;
    }

    /**
     * Something everywhere. cable(), 4 SILK, 5 of (3, 4) and DEPTH 3; an image; stock of 0, 1, 2; 2 layers, 2 jobs,
     * 2 in the bundle, 4 steps, a text, row 0 of 3, row 1 missing, row 2 of none, a tally.
     */
    static YarnPlier busy() {
        YarnPlier x = cable();
        x.thread(2, 7, 25);
        plied(x, 9, 3, 4);
        x.lay(2, 3, 1);
        x.job(3, 50);
        x.image();
        x.lay(0, 2, 0);
        x.job(2, 7);
        x.set(3, 0, 500);
        x.set(3, 1, 400);
        x.set(3, 2, 30);
        x.set(0, 4, -6);
        x.part(1);
        x.part(2);
        row(x, 0, 10, 11, 12);
        x.row(2, 0);
        feed(x, "s0,77");
        x.torque(3);
        return x;
    }

    /** As busy(), but 16 yarns, 8 layers, 8 jobs, 4 in the bundle, 10 steps, 80 bytes. */
    static YarnPlier full() {
        YarnPlier x = cable();
        x.thread(2, 7, 25);
        plied(x, 9, 3, 4);
        for (int i = 6; i < 16; i++) {
            x.thread(i % 4, i, i);
        }
        for (int i = 0; i < 8; i++) {
            x.lay(i, i + 1, i % 2);
            x.job(i % 2 == 0 ? 2 : 3, i + 1);
        }
        x.image();
        for (int i = 0; i < 10; i++) {
            x.set(3, i, 1000 + i);
        }
        x.part(1);
        x.part(2);
        x.part(0);
        x.part(0);
        row(x, 0, 10, 11, 12);
        x.row(2, 0);
        feed(x, "s0,00077;s1,77;s2,77;s3,77;s4,77;s5,77;s6,77;s7,77;s8,77;s9,77;s0,78;s1,78;s2,78");
        x.torque(5);
        return x;
    }

    static void row(YarnPlier x, int row, int... values) {
        x.row(row, values.length);
        for (int i = 0; i < values.length; i++) {
            x.put(row, i, values[i]);
        }
    }

    static void feed(YarnPlier x, String text) {
        for (char letter : text.toCharArray()) {
            x.feed(letter);
        }
    }

    static int text(YarnPlier x, String text) {
        feed(x, text);
        return x.read();
    }
}
