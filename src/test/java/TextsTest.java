/** Promises 33 to 35: the tape and its texts. */
public final class TextsTest {
    private static final Due due = new Due();

    private static void feed() {
        due.part("promise 33");
        YarnPlier x = new YarnPlier();
        int[] bad = {31, 127, -1, 0, Scenes.MIN, Scenes.MAX, 32 + 256, 't' + 65536};
        for (int letter : bad) {
            due.is("feed(" + letter + ")", x.feed(letter), -1);
        }
        for (int i = 1; i <= 80; i++) {
            due.is("feed " + i, x.feed(i % 2 == 0 ? 32 : 126), i);
        }
        due.is("an 81st", x.feed(32), -3);
        due.is("a bad 81st", x.feed(31), -1);
        due.is("count(5)", x.count(5), 80);
    }

    private static void wipe() {
        due.part("promise 34");
        YarnPlier x = new YarnPlier();
        due.is("wipe()", x.wipe(), 0);
        x.feed('x');
        x.feed('y');
        due.is("wipe()", x.wipe(), 2);
        due.is("wipe()", x.wipe(), 0);
        due.is("it reads from the first byte", Scenes.text(x, "t0,1,1"), 1);
    }

    /** By each of them nothing is done: a fault. */
    private static void faults() {
        Object[][] rows = {{"", 0}, {"x", 0}, {" t0,1,1", 0}, {"t", 1}, {"t,", 1}, {"t0", 2}, {"t0;", 2}, {"t0,", 3}, {"t0,,", 3}, {"t-1,1,1", 1},
            {"t0,-1,1", 3}, {"t0,1", 4}, {"t0,1;", 4}, {"t0,1,", 5}, {"t0,1,-", 6}, {"t0,1,--1", 6}, {"t0,1,+1", 5}, {"t0,1,1,", 6}, {"t0,1,1,1", 6},
            {"t0,1,1 ", 6}, {"t0,1,1;", 7}, {"t0,1,1;;", 7}, {"t0,1,1;x", 7}, {"t000000,1,1", 6}, {"t0,100000,1", 8}, {"t0,1,123456", 10},
            {"t0,1,-123456", 11}, {"t0,1:1", 4}, {"t 0,1,1", 1}, {"T0,1,1", 0}, {"p0", 2}, {"p0:", 2}, {"p0,", 3}, {"p0,1", 4}, {"p0,1,", 5}, {"p0,1:", 5},
            {"p0,1;", 4}, {"p0,1:-", 6}, {"p0,1:1,", 6}, {"p0,1:1:", 6}, {"p0,1,0,1", 8}, {"p0,1,0,1,", 8}, {"p0,1,0,1;", 8}, {"p0,1,0,1,0:1", 8},
            {"p-0,1:1", 1}, {"p0,1,0:", 7}, {"p000000,1:1", 6}, {"s", 1}, {"s0", 2}, {"s0,", 3}, {"s0,-1", 3}, {"s0,1,", 4}, {"s0,100000", 8}, {"s0:1", 2},
            {"m", 1}, {"m0", 2}, {"m0,-1", 3}, {"m0,1,1", 4}, {"m0,100000", 8}, {"s0,7;m", 6}, {"s0,7;s0,8;p1", 12}, {"s0,7;q", 5}, {"t0,1/1", 4}, {"s0/1", 2}};
        for (Object[] r : rows) {
            YarnPlier x = Scenes.cable();
            String text = (String) r[0];
            x.set(0, 0, 1);
            due.is("'" + text + "'", Scenes.text(x, text), -100 - (Integer) r[1]);
            due.is("'" + text + "': the tape", x.count(5), 0);
            due.is("'" + text + "': yarns", x.count(0), 4);
            due.is("'" + text + "': stock", x.of(0, 3), 0);
            due.is("'" + text + "': steps", x.count(4), 1);
        }
    }

    /** What was on the tape before counts for nothing. */
    private static void faultsBehindOthers() {
        Object[][] rows = {{"s0,7;s0,8", "s0,7;", 5}, {"s0,7", "s0", 2}, {"s0,7", "s0,", 3}, {"t0,1,-1", "t0,1,", 5}, {"t0,1,-1", "t0,1,-", 6},
            {"p0,1:1", "p0,1", 4}, {"p0,1:1", "p0", 2}, {"m0,1", "m", 1}, {"s0,7", "", 0}};
        for (Object[] r : rows) {
            YarnPlier x = Scenes.cable();
            Scenes.feed(x, (String) r[0]);
            x.wipe();
            due.is("'" + r[1] + "' behind '" + r[0] + "'", Scenes.text(x, (String) r[1]), -100 - (Integer) r[2]);
        }
        YarnPlier x = Scenes.cable();
        Scenes.text(x, "s0,123");
        due.is("shorter than the one before", Scenes.text(x, "s0,1"), 1);
        due.is("its stock", x.of(0, 3), 1);
    }

    private static void done() {
        YarnPlier x = new YarnPlier();
        due.is("acts", Scenes.text(x, "t0,10,20;t1,00005,-3;p0,1:-4;p2,2,00000:3;s0,1000;s1,1000;m3,328"), 7);
        due.is("the tape", x.count(5), 0);
        due.is("torque", x.torque(3), 535);
        due.is("stock of 0", x.of(0, 3), 1);
        due.is("stock of 1", x.of(1, 3), 332);
        due.is("stock of 3", x.of(3, 3), 328);
        due.is("stock 99999", Scenes.text(x, "s2,99999"), 1);
        due.is("of(2, 3)", x.of(2, 3), 99999);
        due.is("no step", x.count(4), 0);
        due.is("-0", Scenes.text(x, "t3,99,-0"), 1);
        due.is("-99 in five figures", Scenes.text(x, "t3,99,-00099"), 1);
        due.is("of(5, 0)", x.of(5, 0), -99);
        due.is("four parts", Scenes.text(x, "p4,5,4,0:99"), 1);
        due.is("partOf(6, 3)", x.partOf(6, 3), 0);
        due.is("of(6, 0)", x.of(6, 0), 99);
        due.is("of(6, 4)", x.of(6, 4), 4);
        YarnPlier many = new YarnPlier();
        StringBuilder text = new StringBuilder("t0,1,0");
        for (int i = 0; i < 14; i++) {
            text.append(";s0,").append(i % 10);
        }
        due.is("15 acts", Scenes.text(many, text.toString()), 15);
        due.is("the last of them", many.of(0, 3), 3);
    }

    private static void refused() {
        String[] first = {"t4,1,1", "t0,0,1", "t0,100,1", "t0,1,100", "t0,1,-100", "p0,9:1", "p9,0:1", "p0,1:100", "p0,1,2,9:1",
            "s9,1", "m3,1", "m0,1", "m2,0", "m2,10000", "m9,1", "m2,99999", "t0,99999,1"};
        for (String act : first) {
            YarnPlier x = Scenes.cable();
            x.part(0);
            x.set(0, 0, 1);
            due.is("'" + act + "'", Scenes.text(x, act + ";s0,7"), -200);
            due.is("'" + act + "': none behind it", x.of(0, 3), 0);
            due.is("'" + act + "': steps stay", x.count(4), 1);
            due.is("'" + act + "': the tape", x.count(5), 0);
            due.is("'" + act + "' behind two", Scenes.text(x, "s0,8;s2,9;" + act + ";s0,7"), -202);
            due.is("'" + act + "': those ahead", x.of(0, 3), 8);
            due.is("'" + act + "': those ahead", x.of(2, 3), 9);
            due.is("'" + act + "': the bundle", x.count(1), 1);
            due.is("'" + act + "': yarns", x.count(0), 4);
            due.is("'" + act + "': no steps", x.count(4), 0);
        }
        YarnPlier deep = Scenes.deep();
        due.is("a part of depth 3", Scenes.text(deep, "p0,3:1"), -200);
        YarnPlier full = new YarnPlier();
        for (int i = 0; i < 15; i++) {
            full.thread(0, 1, 1);
        }
        due.is("a 17th", Scenes.text(full, "t0,1,1;t0,1,1"), -201);
        due.is("a 17th", Scenes.text(full, "p0,1:1"), -200);
        YarnPlier stock = Scenes.cable();
        due.is("made of what an act told", Scenes.text(stock, "s0,2;s1,2;m2,1;m2,1"), -203);
        due.is("stock above 99999", Scenes.text(stock, "s0,99;s1,99;s2,99999;m2,1"), -203);
        due.is("up to 99999", Scenes.text(stock, "s2,99998;m2,1"), 2);
    }

    private static void bundle() {
        YarnPlier x = Scenes.cable();
        x.part(1);
        x.part(0);
        due.is("p", Scenes.text(x, "p0,0:5"), 1);
        due.is("the bundle stays", x.count(1), 2);
        due.is("ply(1)", x.ply(1), 5);
        due.is("partOf(5, 0)", x.partOf(5, 0), 1);
        due.is("partOf(4, 0)", x.partOf(4, 0), 0);
        for (int i = 0; i < 4; i++) {
            x.part(0);
        }
        due.is("p beside a full bundle", Scenes.text(x, "p0,0:5"), 1);
    }

    public static void main(String[] args) {
        feed();
        wipe();
        due.part("promise 35");
        faults();
        faultsBehindOthers();
        done();
        refused();
        bundle();
        due.end();
    }
}
