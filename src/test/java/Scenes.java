/** Benches that several tests begin with. Their numbers are reckoned by hand in the tests. */
final class Scenes {
    static final int VOID = YarnPlier.VOID;
    static final int MIN = Integer.MIN_VALUE, MAX = Integer.MAX_VALUE;

    private Scenes() {
    }

    /** 0 WOOL 10 twist 20; 1 LINEN 5 twist -3; 2 of (0, 1) twist -4; 3 of (2, 2, 0) twist 3. */
    static YarnPlier cable() {
        YarnPlier x = new YarnPlier();
        x.thread(0, 10, 20);
        x.thread(1, 5, -3);
        plied(x, -4, 0, 1);
        plied(x, 3, 2, 2, 0);
        return x;
    }

    /** Threads of WOOL of weight 1: the torque of each is its twist. */
    static YarnPlier twists(int... twists) {
        YarnPlier x = new YarnPlier();
        for (int twist : twists) {
            x.thread(0, 1, twist);
        }
        return x;
    }

    static int plied(YarnPlier x, int twist, int... parts) {
        for (int part : parts) {
            x.part(part);
        }
        return x.ply(twist);
    }

    /** 0 WOOL, then plied ones of depth 1, 2, 3 behind it: 1, 2, 3. */
    static YarnPlier deep() {
        YarnPlier x = twists(1);
        plied(x, 1, 0, 0);
        plied(x, 1, 1, 0);
        plied(x, 1, 2, 0);
        return x;
    }

    /** 4 threads, 4 of depth 1, 4 of depth 2, and 12: 85 places, no two parts of one place alike. */
    static YarnPlier widest() {
        YarnPlier x = twists(1, 10, -7, 30);
        for (int level = 0; level < 2; level++) {
            for (int i = 0; i < 4; i++) {
                plied(x, 5 * i - 8 + level, 4 * level, 4 * level + 1, 4 * level + 2, 4 * level + 3);
            }
        }
        plied(x, 2, 8, 9, 10, 11);
        return x;
    }

    static int text(YarnPlier x, String text) {
        for (char letter : text.toCharArray()) {
            x.feed(letter);
        }
        return x.read();
    }
}
