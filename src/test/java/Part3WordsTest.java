/** The document's third part, jobs, texts, steps, rows, the image, sentence by sentence: what each says of its edges. */
public final class Part3WordsTest {
    private static final Due due = new Due();

    /** 0 WOOL; 1 of (0, 0), 2 of (0, 0, 0), both of twist 0: 2 and 3 yards of 0 for each of theirs. */
    private static YarnPlier shop(int stock) {
        YarnPlier x = Scenes.twists(0);
        Scenes.plied(x, 0, 0, 0);
        Scenes.plied(x, 0, 0, 0, 0);
        x.set(3, 0, stock);
        return x;
    }

    private static void jobs(YarnPlier x, int... yarnsAndYards) {
        due.is("how many wait", x.count(3), yarnsAndYards.length / 2);
        for (int i = 0; i < yarnsAndYards.length; i++) {
            due.is("job " + i / 2 + ", " + i % 2, x.jobOf(i / 2, i % 2), yarnsAndYards[i]);
        }
    }

    private static void waiting() {
        due.part("JOBS (8 at most) wait one behind another: a PLIED one, yards.");
        YarnPlier x = shop(0);
        due.is("none at first", x.count(3), 0);
        due.is("no 0th", x.jobOf(0, 0), -2);
        due.is("a THREAD", x.job(0, 1), -5);
        due.is("0 yards", x.job(1, 0), -1);
        due.is("10000 yards", x.job(1, 10000), -1);
        due.is("1 yard", x.job(1, 1), 1);
        due.is("9999 yards, of which there are none", x.job(2, 9999), 2);
        jobs(x, 1, 1, 2, 9999);
        for (int i = 3; i <= 8; i++) {
            due.is("as many as " + i, x.job(1, i), i);
        }
        due.is("a ninth", x.job(1, 9), -3);
        jobs(x, 1, 1, 2, 9999, 1, 3, 1, 4, 1, 5, 1, 6, 1, 7, 1, 8);
        due.is("no 8th", x.jobOf(8, 1), -2);
    }

    private static void done() {
        due.part("The first is DONE: it is MADE; if STOCK lacks (or there would be above 99999), it stays, STATE.");
        YarnPlier x = shop(16);
        due.is("none waits", x.do1(), -2);
        x.job(1, 4);
        x.job(2, 3);
        x.job(1, 1);
        due.is("the first", x.do1(), 2);
        due.is("it is MADE", x.of(1, 3), 4);
        due.is("8 less", x.of(0, 3), 8);
        due.is("9 of 8: it stays", x.do1(), -5);
        jobs(x, 2, 3, 1, 1);
        due.is("the one behind it is not done in its place", x.of(1, 3), 4);
        x.set(3, 0, 9);
        due.is("9 of 9", x.do1(), 1);
        due.is("down to 0", x.of(0, 3), 0);
        x.set(3, 0, 99999);
        x.set(3, 1, 99999);
        due.is("there would be 100000: it stays", x.do1(), -5);
        jobs(x, 1, 1);
        x.set(3, 1, 99998);
        due.is("99999", x.do1(), 0);
        due.is("99999", x.of(1, 3), 99999);
        due.is("none waits any more", x.do1(), -2);
        YarnPlier full = Scenes.full();
        due.is("of eight", full.do1(), 7);
        due.is("then one more can come", full.job(2, 5), 8);
    }

    /** One goes ahead, one comes behind, more often than there are places. */
    private static void roundAndRound() {
        due.part("JOBS (8 at most) wait one behind another, round and round");
        YarnPlier x = shop(99999);
        for (int i = 0; i < 8; i++) {
            x.job(1, 10 + i);
        }
        int made = 0;
        for (int i = 0; i < 30; i++) {
            due.is("a ninth", x.job(1, 1), -3);
            due.is("the first", x.jobOf(0, 1), 10 + i);
            due.is("do1()", x.do1(), 7);
            made += 10 + i;
            due.is("it is MADE", x.of(1, 3), made);
            due.is("the last but one", x.jobOf(6, 1), 17 + i);
            due.is("none behind it", x.jobOf(7, 1), -2);
            due.is("one more", x.job(1, 18 + i), 8);
        }
        for (int left = 7; left >= 0; left--) {
            due.is("do1()", x.do1(), left);
        }
        due.is("none waits", x.do1(), -2);
    }

    private static void struck() {
        due.part("STRUCK: all of a YARN go.");
        YarnPlier x = shop(0);
        due.is("of none", x.strike(1), 0);
        x.job(2, 1);
        x.job(1, 2);
        x.job(1, 3);
        x.job(2, 4);
        due.is("of a THREAD none", x.strike(0), 0);
        due.is("no such YARN", x.strike(3), -1);
        due.is("no such YARN", x.strike(-1), -1);
        due.is("one behind the other", x.strike(1), 2);
        jobs(x, 2, 1, 2, 4);
        due.is("the first and the last", x.strike(2), 2);
        jobs(x);
        for (int i = 1; i <= 8; i++) {
            x.job(1, i);
        }
        due.is("all eight", x.strike(1), 8);
        jobs(x);
    }

    private static void about() {
        due.part("ABOUT: they wait the other way about.");
        YarnPlier x = shop(0);
        due.is("none", x.about(), 0);
        x.job(1, 1);
        due.is("one", x.about(), 1);
        jobs(x, 1, 1);
        for (int i = 2; i <= 8; i++) {
            x.job(i % 2 + 1, i);
        }
        due.is("eight", x.about(), 8);
        jobs(x, 1, 8, 2, 7, 1, 6, 2, 5, 1, 4, 2, 3, 1, 2, 1, 1);
        due.is("the first is the last now", x.strike(2) + x.about(), 3 + 5);
        jobs(x, 1, 1, 1, 2, 1, 4, 1, 6, 1, 8);
    }

    private static void tape() {
        due.part("THE TAPE holds 0 .. 80 bytes 32 .. 126.");
        YarnPlier x = new YarnPlier();
        due.is("none at first", x.count(5), 0);
        int[] bad = {31, 127, 0, -1, 128, 255, 256 + 't'};
        for (int letter : bad) {
            due.is("byte " + letter, x.feed(letter), -1);
        }
        due.is("byte 32", x.feed(32), 1);
        due.is("byte 126", x.feed(126), 2);
        for (int i = 3; i <= 80; i++) {
            due.is("as many as " + i, x.feed('0'), i);
        }
        due.is("an 81st", x.feed('0'), -3);
        due.is("it has 80", x.wipe(), 80);
        due.is("it is empty", x.wipe(), 0);
        due.is("one again", x.feed('0'), 1);
        YarnPlier long80 = Scenes.cable();
        due.is("a text of 80 bytes", Scenes.text(long80, "s0,00077;s1,77;s2,77;s3,77;s0,77;s1,77;s2,77;s3,77;s0,77;s1,77;s0,78;s1,78;s2,78"), 13);
        due.is("its last ACT", long80.of(2, 3), 78);
        due.is("80 bytes, its last a FAULT", Scenes.text(long80, "s0,00077;s1,77;s2,77;s3,77;s0,77;s1,77;s2,77;s3,77;s0,77;s1,77;s0,78;s1,78;s2,7;"), -180);
    }

    private static void acts() {
        due.part("A TEXT: ACTS, one or more, parted by ;");
        YarnPlier x = new YarnPlier();
        due.is("none", x.read(), -100);
        due.is("; alone", Scenes.text(x, ";"), -100);
        due.is("; ahead", Scenes.text(x, ";t0,1,1"), -100);
        due.is("; behind", Scenes.text(x, "t0,1,1;"), -107);
        due.is("; twice", Scenes.text(x, "t0,1,1;;t0,1,1"), -107);
        due.is("no ;", Scenes.text(x, "t0,1,1t0,1,1"), -106);
        due.is("nothing came", x.count(0), 0);
        due.is("one", Scenes.text(x, "t0,1,1"), 1);
        due.is("two", Scenes.text(x, "t1,1,1;t2,1,1"), 2);
        due.is("three came", x.count(0), 3);
        String kinds = "tpsm";
        for (int sign = 32; sign <= 126; sign++) {
            YarnPlier y = Scenes.cable();
            boolean kind = kinds.indexOf(sign) >= 0;
            due.is("an ACT begins with " + (char) sign, Scenes.text(y, "" + (char) sign), kind ? -101 : -100);
            due.is("a second one", Scenes.text(y, "s0,1;" + (char) sign), kind ? -106 : -105);
        }
    }

    private static void kinds() {
        due.part("t FIBRE, WEIGHT, TWIST (a THREAD more)");
        YarnPlier x = new YarnPlier();
        due.is("two numbers", Scenes.text(x, "t3,9"), -104);
        due.is("four numbers", Scenes.text(x, "t3,9,-7,0"), -107);
        due.is("none came", x.count(0), 0);
        due.is("three numbers", Scenes.text(x, "t3,9,-7"), 1);
        due.is("FIBRE", x.of(0, 2), 3);
        due.is("WEIGHT", x.of(0, 1), 9);
        due.is("TWIST", x.of(0, 0), -7);
        due.part("p, 2 to 4 YARNS, then : and a TWIST (a PLIED one more)");
        due.is("no YARN", Scenes.text(x, "p:1"), -101);
        due.is("1 YARN", Scenes.text(x, "p0:1"), -102);
        due.is("2 YARNS", Scenes.text(x, "p0,0:2"), 1);
        due.is("3 YARNS", Scenes.text(x, "p0,1,0:-3"), 1);
        due.is("4 YARNS", Scenes.text(x, "p1,0,0,1:4"), 1);
        due.is("5 YARNS", Scenes.text(x, "p0,0,0,0,0:5"), -108);
        due.is("no TWIST", Scenes.text(x, "p0,0:"), -105);
        due.is("no : ", Scenes.text(x, "p0,0"), -104);
        due.is("two TWISTS", Scenes.text(x, "p0,0:1,1"), -106);
        int[] twists = {-7, 2, -3, 4};
        for (int yarn = 0; yarn < 4; yarn++) {
            due.is("PARTS of " + yarn, x.of(yarn, 4), yarn == 0 ? 0 : yarn + 1);
            due.is("TWIST of " + yarn, x.of(yarn, 0), twists[yarn]);
        }
        due.is("in their order", x.partOf(2, 1), 1);
        due.is("the last", x.partOf(3, 3), 1);
        due.is("no more came", x.count(0), 4);
        due.part("s YARN, STOCK");
        due.is("one number", Scenes.text(x, "s0"), -102);
        due.is("three numbers", Scenes.text(x, "s0,1,1"), -104);
        due.is("two numbers", Scenes.text(x, "s0,40"), 1);
        due.is("STOCK", x.of(0, 3), 40);
        due.is("0", Scenes.text(x, "s0,0") + x.of(0, 3), 1);
        due.is("99999", Scenes.text(x, "s0,99999") + x.of(0, 3), 100000);
        due.part("m YARN, yards (MADE)");
        due.is("one number", Scenes.text(x, "m1"), -102);
        due.is("three numbers", Scenes.text(x, "m1,1,1"), -104);
        due.is("0 yards", Scenes.text(x, "m1,0"), -200);
        due.is("10000 yards", Scenes.text(x, "m1,10000"), -200);
        due.is("a THREAD", Scenes.text(x, "m0,1"), -200);
        // by 996: 996 yards need 1000, twice
        due.is("two numbers", Scenes.text(x, "m1,996"), 1);
        due.is("MADE", x.of(1, 3), 996);
        due.is("2000 less", x.of(0, 3), 97999);
        due.is("STOCK lacks", Scenes.text(x, "s0,1;m1,1"), -201);
    }

    private static void figures() {
        due.part("Numbers of 1 to 5 figures with a comma between; of a TWIST - ahead of it, or none. No blanks.");
        String[][] forms = {{"t#,1,1", "0"}, {"t0,#,1", "1"}, {"t0,1,#", "1"}, {"t0,1,-#", "1"}, {"p#,1:1", "0"}, {"p0,#:1", "1"}, {"p0,1,#:1", "1"},
            {"p0,1,1,#:1", "1"}, {"p0,1:#", "1"}, {"p0,1:-#", "1"}, {"s#,1", "0"}, {"s0,#", "1"}, {"m#,1", "2"}, {"m2,#", "1"}};
        for (String[] form : forms) {
            int at = form[0].indexOf('#');
            YarnPlier x = Scenes.cable();
            x.set(3, 0, 9999);
            x.set(3, 1, 9999);
            for (int figures = 1; figures <= 5; figures++) {
                String number = "0".repeat(figures - 1) + form[1];
                due.is(form[0] + " by " + number, Scenes.text(x, form[0].replace("#", number)), 1);
            }
            due.is(form[0] + " by 6 figures", Scenes.text(x, form[0].replace("#", "00000" + form[1])), -100 - at - 5);
            due.is(form[0] + " by none", Scenes.text(x, form[0].replace("#", "")), -100 - at);
            due.is(form[0] + " by a blank", Scenes.text(x, form[0].replace("#", " " + form[1])), -100 - at);
            due.is(form[0] + " by a blank behind", Scenes.text(x, form[0].replace("#", form[1] + " ")), -101 - at);
            due.is(form[0] + " by +", Scenes.text(x, form[0].replace("#", "+" + form[1])), -100 - at);
            boolean twist = form[0].equals("t0,1,#") || form[0].equals("p0,1:#");
            due.is(form[0] + " by -", Scenes.text(x, form[0].replace("#", "-" + form[1])), twist ? 1 : -100 - at);
            due.is(form[0] + " by --", Scenes.text(x, form[0].replace("#", "--" + form[1])), twist ? -101 - at : -100 - at);
        }
        YarnPlier x = Scenes.cable();
        due.is("-00099", Scenes.text(x, "t0,1,-00099;p0,1:-99"), 2);
        due.is("-99", x.of(4, 0), -99);
        due.is("-99", x.of(5, 0), -99);
        due.is("-0", Scenes.text(x, "t0,1,-0"), 1);
        due.is("0", x.of(6, 0), 0);
        due.is("00000", Scenes.text(x, "s00000,00000"), 1);
    }

    private static void fault() {
        due.part("FAULT: the first byte with which no such text goes on (a sixth figure, a fifth YARN's comma, too), or the length, if it ends too early: -100 less it.");
        String text = "t0,1,-5;p0,1,2,1:-7;s0,99;m2,1";
        // where a text may end: behind each figure that ends an ACT
        String ends = "......x...........x....xx....x";
        for (int length = 0; length <= text.length(); length++) {
            boolean whole = length > 0 && ends.charAt(length - 1) == 'x';
            YarnPlier x = Scenes.cable();
            int answer = Scenes.text(x, text.substring(0, length));
            due.holds("of " + length + " bytes it is " + (whole ? "whole" : "too short"), whole ? answer != -100 - length : answer == -100 - length);
            YarnPlier y = Scenes.cable();
            int other = Scenes.text(y, text.substring(0, length) + "x");
            due.is("x behind " + length + " bytes", other, -100 - length);
        }
        YarnPlier x = Scenes.cable();
        due.is("a sixth figure", Scenes.text(x, "s0,123456"), -108);
        due.is("a sixth figure, and a seventh", Scenes.text(x, "s0,1234567"), -108);
        due.is("a fifth YARN's comma", Scenes.text(x, "p0,1,0,1,0:1"), -108);
        due.is("a fifth YARN's comma, of five figures each", Scenes.text(x, "p00000,00001,00000,00001,0:1"), -124);
        due.is("no second YARN", Scenes.text(x, "p0:1"), -102);
        due.is("a second YARN's comma goes on", Scenes.text(x, "p0,1,:1"), -105);
        due.is("nothing was done", x.count(0), 4);
    }

    /** Every short text, and every change by one sign of some long ones, against the document read by a pattern. */
    private static void faultsByPattern() {
        char[] signs = "tpsm09,-:;".toCharArray();
        for (int length = 0; length <= 5; length++) {
            int texts = (int) Math.pow(signs.length, length);
            for (int number = 0; number < texts; number++) {
                char[] text = new char[length];
                int left = number;
                for (int i = 0; i < length; i++) {
                    text[i] = signs[left % signs.length];
                    left /= signs.length;
                }
                againstPattern(new String(text));
            }
        }
        String[] whole = {"t0,10,-20;p0,1:4;s0,1000", "p0,1,2,0:-99;m2,7;t3,99,99999", "s12345,99999;m00002,1;p3,0,0:1", "m0,1;m2,00001;t00003,00099,-00099;s3,7"};
        for (String text : whole) {
            for (int at = 0; at <= text.length(); at++) {
                againstPattern(text.substring(0, at));
                for (char sign : "tpsm059,-:; x/+".toCharArray()) {
                    againstPattern(text.substring(0, at) + sign + text.substring(at));
                    againstPattern(text.substring(0, at) + sign + text.substring(Math.min(at + 1, text.length())));
                }
            }
        }
    }

    private static YarnPlier real = Scenes.cable();
    private static PlainBench plain = plainCable();
    private static int calls = 9;

    private static PlainBench plainCable() {
        PlainBench x = new PlainBench();
        x.thread(0, 10, 20);
        x.thread(1, 5, -3);
        x.part(0);
        x.part(1);
        x.ply(-4);
        x.part(2);
        x.part(2);
        x.part(0);
        x.ply(3);
        return x;
    }

    private static void againstPattern(String text) {
        calls += text.length() + 1;
        if (calls > 512) {
            real = Scenes.cable();
            plain = plainCable();
            calls = 9 + text.length() + 1;
        }
        for (char sign : text.toCharArray()) {
            plain.feed(sign);
        }
        due.is("'" + text + "'", Scenes.text(real, text), plain.read());
    }

    private static void refusedActs() {
        due.part("An ACT refused (as the call would be): -200 less the number of ACTS ahead of it: those ahead are done, those behind are not.");
        for (int ahead = 0; ahead <= 12; ahead++) {
            YarnPlier x = Scenes.cable();
            StringBuilder text = new StringBuilder();
            for (int i = 1; i <= ahead; i++) {
                text.append("s0,").append(i).append(';');
            }
            due.is(ahead + " ahead", Scenes.text(x, text + "s4,1;s1,5"), -200 - ahead);
            due.is("those ahead are done", x.of(0, 3), ahead);
            due.is("those behind are not", x.of(1, 3), 0);
        }
        YarnPlier x = Scenes.cable();
        due.is("the last refused", Scenes.text(x, "t0,1,1;t1,1,1;t4,1,1"), -202);
        due.is("two came", x.count(0), 6);
        due.is("a YARN of an ACT ahead", Scenes.text(x, "t0,1,1;p6,6:1;s7,9"), 3);
        due.is("of an ACT behind", Scenes.text(x, "p8,8:1;t0,1,1"), -200);
        due.is("DEPTH 3 of ACTS ahead", Scenes.text(x, "p7,0:1;p8,0:1;p9,0:1"), -202);
        due.part("The whole text is looked at for a FAULT ahead of the first ACT.");
        due.is("a FAULT behind good ACTS", Scenes.text(x, "s0,5;s1,5;x"), -110);
        due.is("a FAULT behind one that would be refused", Scenes.text(x, "s99,5;x"), -106);
        due.is("the text ends too early behind them", Scenes.text(x, "s99,5;s0,5;"), -111);
        due.is("nothing was done", x.of(0, 3), 0);
    }

    private static void steps() {
        due.part("STEPS: what set() made otherwise can be taken BACK, the latest first, 10 at most (then the eldest is none any more).");
        YarnPlier x = shop(0);
        due.is("none at first", x.count(4), 0);
        due.is("none at first", x.back(), -5);
        for (int v = 1; v <= 10; v++) {
            x.set(3, 0, v);
        }
        due.is("10", x.count(4), 10);
        x.set(0, 1, 50);
        due.is("10 at most", x.count(4), 10);
        due.is("the latest first", x.back(), 9);
        due.is("the latest first", x.of(1, 0), 0);
        for (int left = 8; left >= 0; left--) {
            due.is("back()", x.back(), left);
            due.is("as it was", x.of(0, 3), left + 1);
        }
        due.is("the eldest is none any more", x.back(), -5);
        due.is("the eldest is none any more", x.of(0, 3), 1);
        x.set(3, 0, 7);
        due.is("one again", x.back(), 0);
        due.is("as it was", x.of(0, 3), 1);
        due.is("BACK itself is no STEP", x.back(), -5);
        for (int v = 10; v < 40; v++) {
            x.set(3, 0, v);
        }
        for (int left = 9; left >= 0; left--) {
            due.is("behind thirty", x.back(), left);
            due.is("behind thirty", x.of(0, 3), 29 + left);
        }
        due.is("behind thirty", x.back(), -5);
        due.part("telling what is so already is none.");
        for (int what = 0; what < 4; what++) {
            due.is("told once more", x.set(what, 0, x.of(0, what)), x.of(0, what));
        }
        due.is("no STEP", x.count(4), 0);
        x.set(0, 0, 5);
        x.set(0, 0, 5);
        due.is("one STEP", x.count(4), 1);
        x.set(0, 0, 0);
        due.is("there and back are two", x.count(4), 2);
    }

    private interface Call {
        long on(YarnPlier x);
    }

    private static void leaves(String what, int steps, Call call) {
        YarnPlier x = shop(100);
        x.job(1, 5);
        x.image();
        x.set(0, 0, 9);
        call.on(x);
        due.is(what, x.count(4), steps);
        due.is(what + ", back()", x.back(), steps - 1 < 0 ? -5 : steps - 1);
    }

    private static void stepsLeft() {
        due.part("make(), do1(), read() that does an ACT, clear(), undo() leave none (where they are not refused); thread(), ply() leave them.");
        leaves("make()", 0, x -> x.make(1, 5));
        leaves("make() refused: BAD", 2, x -> x.make(1, 0));
        leaves("make() refused: STATE", 2, x -> x.make(1, 51));
        leaves("make() refused: a THREAD", 2, x -> x.make(0, 5));
        leaves("do1()", 0, x -> x.do1());
        leaves("do1() refused: NOT", 2, x -> x.strike(1) + x.do1());
        leaves("do1() refused: STATE", 2, x -> x.strike(1) + x.job(1, 51) + x.do1());
        leaves("read()", 0, x -> Scenes.text(x, "t0,1,1"));
        leaves("read() that tells what is so already", 0, x -> Scenes.text(x, "s0,100"));
        leaves("read() refused: a FAULT", 2, x -> Scenes.text(x, "t0,1,1;"));
        leaves("read() refused: nothing on THE TAPE", 2, x -> x.read());
        leaves("read() refused: its first ACT", 2, x -> Scenes.text(x, "t0,0,1;s0,5"));
        leaves("read() that does an ACT, its second one is refused", 0, x -> Scenes.text(x, "s0,5;t0,0,1"));
        leaves("clear()", 0, x -> x.clear());
        leaves("undo()", 0, x -> x.undo());
        leaves("thread()", 2, x -> x.thread(0, 1, 1));
        leaves("ply()", 2, x -> Scenes.plied(x, 1, 0, 0));
        leaves("what is not named: image()", 2, x -> x.image());
        leaves("what is not named: lay()", 2, x -> x.lay(0, 1, 0) + x.lay(-1, 0, 0));
        leaves("what is not named: jobs", 2, x -> x.job(1, 1) + x.about() + x.strike(1));
        leaves("what is not named: rows", 2, x -> x.row(0, 3) + x.put(0, 1, 1) + x.film(0, 2, 1, 0));
        leaves("what is not named: THE TAPE", 2, x -> x.feed('t') + x.wipe());
        leaves("what is not named: torque()", 2, x -> x.torque(1));
        YarnPlier x = Scenes.twists(0);
        x.set(0, 0, 9);
        due.is("undo() refused", x.undo() + x.count(4), -4);
        due.is("a YARN that came behind it stays", x.thread(0, 1, 1) + x.back(), 1);
        due.is("count(0)", x.count(0), 2);
    }

    private static void rows() {
        due.part("ROWS 0 .. 2 are missing (at first), or hold 0 .. 40 ints: -11 it is missing, -13 a place outside, -14 a size below 0.");
        YarnPlier x = new YarnPlier();
        for (int row = 0; row < 3; row++) {
            due.is("missing at first", x.put(row, 0, 1), -11);
            due.is("missing at first", x.get(row, 0), Scenes.VOID);
            due.is("of none", x.row(row, 0), 1);
            due.is("a place outside", x.put(row, 0, 1), -13);
            due.is("of 40", x.row(row, 40), 1);
            due.is("the first", x.put(row, 0, Scenes.MAX), 1);
            due.is("the last", x.put(row, 39, Scenes.MIN), 1);
            due.is("a place outside", x.put(row, 40, 1), -13);
            due.is("a place outside", x.put(row, -1, 1), -13);
            due.is("of 41", x.row(row, 41), -1);
            due.is("of -2", x.row(row, -2), -14);
            due.is("the first", x.get(row, 0), Scenes.MAX);
            due.is("the last", x.get(row, 39), Scenes.MIN);
            due.is("beyond the last", x.get(row, 40), Scenes.VOID);
        }
        due.is("of 1", x.row(1, 1), 1);
        due.is("all 0", x.get(1, 0), 0);
        due.is("of 40 again: all 0", x.row(1, 40) + x.get(1, 39), 1);
        due.is("the others stay", x.get(0, 0), Scenes.MAX);
        due.is("the others stay", x.get(2, 0), Scenes.MAX);
        due.is("missing", x.row(1, -1), 1);
        due.is("missing", x.put(1, 0, 1), -11);
        due.is("no ROW 3", x.row(3, 1), -1);
        due.is("no ROW -1", x.row(-1, 1), -1);
    }

    private static void image() {
        due.part("THE IMAGE: YARNS, STOCK, LAYERS, JOBS.");
        due.is("none at first", new YarnPlier().undo(), -5);
        YarnPlier empty = new YarnPlier();
        due.is("of nothing", empty.image(), 0);
        Scenes.text(empty, "t0,1,1;p0,0:1");
        empty.lay(1, 1, 1);
        empty.job(1, 1);
        due.is("back to nothing", empty.undo(), 0);
        for (int what = 0; what <= 6; what++) {
            due.is("count(" + what + ")", empty.count(what), 0);
        }
        YarnPlier x = Scenes.full();
        x.clear();
        due.is("all 16", x.undo(), 16);
        due.is("LAYERS", x.count(2), 8);
        due.is("JOBS", x.count(3), 8);
        due.is("no STEPS", x.count(4), 0);
        due.is("nothing in THE BUNDLE", x.count(1), 0);
        due.is("STOCK as it was then", x.of(5, 3), 0);
        due.is("ROWS are not in it", x.get(0, 2), 12);
        due.is("THE TAPE is not in it", x.count(5), 80);
        due.is("TALLY is not in it", x.tally(0), 3);
        x.set(3, 0, 5);
        due.is("once more", x.undo(), 16);
        due.is("STOCK as it was then", x.of(0, 3), 0);
        x.lay(-1, 0, 0);
        x.image();
        x.lay(0, 1, 0);
        due.is("the latest one", x.undo() + x.count(2), 16);
    }

    public static void main(String[] args) {
        waiting();
        done();
        roundAndRound();
        struck();
        about();
        tape();
        acts();
        kinds();
        figures();
        fault();
        faultsByPattern();
        refusedActs();
        steps();
        stepsLeft();
        rows();
        image();
        due.end();
    }
}
