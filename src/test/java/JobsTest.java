/** Promises 27 to 32: jobs, and steps taken back. */
public final class JobsTest {
    private static final Due due = new Due();

    private static YarnPlier stocked() {
        YarnPlier x = Scenes.cable();
        x.set(3, 0, 1000);
        x.set(3, 1, 1000);
        return x;
    }

    private static void jobs(YarnPlier x, int... yarnsAndYards) {
        due.is("count(3)", x.count(3), yarnsAndYards.length / 2);
        for (int i = 0; i < yarnsAndYards.length / 2; i++) {
            due.is("jobOf(" + i + ", 0)", x.jobOf(i, 0), yarnsAndYards[2 * i]);
            due.is("jobOf(" + i + ", 1)", x.jobOf(i, 1), yarnsAndYards[2 * i + 1]);
        }
    }

    private static void job() {
        due.part("promise 27");
        YarnPlier x = Scenes.cable();
        due.is("job(2, 1)", x.job(2, 1), 1);
        due.is("job(3, 9999)", x.job(3, 9999), 2);
        due.is("a thread", x.job(0, 5), -5);
        due.is("bad yards of a thread", x.job(0, 0), -1);
        due.is("job(2, 0)", x.job(2, 0), -1);
        due.is("job(2, 10000)", x.job(2, 10000), -1);
        due.is("job(4, 1)", x.job(4, 1), -1);
        due.is("job(-1, 1)", x.job(-1, 1), -1);
        for (int i = 3; i <= 8; i++) {
            due.is("job " + i, x.job(2, 1), i);
        }
        due.is("a ninth", x.job(2, 1), -3);
        due.is("a thread ahead of full", x.job(0, 1), -5);
        due.is("bad ahead of full", x.job(2, 0), -1);
        due.is("count(3)", x.count(3), 8);
    }

    private static void do1() {
        due.part("promise 28");
        YarnPlier x = stocked();
        due.is("none waits", x.do1(), -2);
        due.is("steps stay", x.count(4), 2);
        x.job(3, 300);
        x.job(3, 300);
        x.job(2, 1);
        due.is("do1()", x.do1(), 2);
        due.is("made", x.of(3, 3), 300);
        // 303, then 306 and 306
        due.is("stock of 0", x.of(0, 3), 85);
        due.is("stock of 1", x.of(1, 3), 388);
        due.is("steps", x.count(4), 0);
        x.set(0, 0, 5);
        due.is("stock lacks", x.do1(), -5);
        due.is("steps stay", x.count(4), 1);
        due.is("stock stays", x.of(0, 3), 85);
        jobs(x, 3, 300, 2, 1);
        x.about();
        due.is("the other one", x.do1(), 1);
        x.set(3, 0, 99999);
        x.set(3, 1, 99999);
        x.set(3, 3, 99700);
        due.is("above 99999", x.do1(), -5);
        x.set(3, 3, 99699);
        due.is("up to 99999", x.do1(), 0);
        due.is("made", x.of(3, 3), 99999);
    }

    private static void strike() {
        due.part("promise 29");
        YarnPlier x = Scenes.cable();
        x.job(2, 1);
        x.job(3, 2);
        x.job(2, 3);
        x.job(2, 4);
        x.job(3, 5);
        due.is("strike(0)", x.strike(0), 0);
        due.is("strike(4)", x.strike(4), -1);
        due.is("strike(-1)", x.strike(-1), -1);
        due.is("strike(2)", x.strike(2), 3);
        jobs(x, 3, 2, 3, 5);
        due.is("strike(2)", x.strike(2), 0);
        due.is("strike(3)", x.strike(3), 2);
        due.is("count(3)", x.count(3), 0);
        for (int i = 1; i <= 8; i++) {
            x.job(i == 8 ? 2 : 3, i);
        }
        due.is("of eight", x.strike(2), 1);
        due.is("of seven", x.strike(3), 7);
    }

    private static void about() {
        due.part("promise 30");
        YarnPlier x = Scenes.cable();
        due.is("none", x.about(), 0);
        x.job(2, 1);
        due.is("one", x.about(), 1);
        x.job(3, 2);
        x.job(2, 3);
        due.is("three", x.about(), 3);
        jobs(x, 2, 3, 3, 2, 2, 1);
        x.job(3, 4);
        due.is("four", x.about(), 4);
        jobs(x, 3, 4, 2, 1, 3, 2, 2, 3);
    }

    private static void jobOf() {
        due.part("promise 31");
        YarnPlier x = Scenes.cable();
        x.job(3, 77);
        jobs(x, 3, 77);
        due.is("jobOf(1, 0)", x.jobOf(1, 0), -2);
        due.is("jobOf(-1, 1)", x.jobOf(-1, 1), -2);
        due.is("jobOf(MIN, 1)", x.jobOf(Scenes.MIN, 1), -2);
        due.is("jobOf(MAX, 1)", x.jobOf(Scenes.MAX, 1), -2);
        due.is("jobOf(0, 2)", x.jobOf(0, 2), -1);
        due.is("jobOf(0, -1)", x.jobOf(0, -1), -1);
        due.is("bad ahead of not", x.jobOf(5, 2), -1);
    }

    private static void back() {
        due.part("promise 32");
        YarnPlier x = Scenes.cable();
        due.is("none", x.back(), -5);
        x.set(0, 2, 50);
        x.set(0, 2, 50);
        x.set(1, 0, 33);
        x.set(2, 0, 2);
        x.set(3, 3, 44);
        x.set(0, 2, -50);
        x.set(1, 2, 3);
        x.set(0, 9, 3);
        due.is("steps", x.count(4), 5);
        due.is("back()", x.back(), 4);
        due.is("twist", x.of(2, 0), 50);
        due.is("back()", x.back(), 3);
        due.is("stock", x.of(3, 3), 0);
        due.is("back()", x.back(), 2);
        due.is("fibre", x.of(0, 2), 0);
        x.thread(0, 1, 1);
        Scenes.plied(x, 1, 0, 1);
        x.lay(0, 1, 0);
        x.job(2, 4);
        x.about();
        x.strike(2);
        x.image();
        x.make(2, 5);
        x.do1();
        Scenes.text(x, "x");
        Scenes.text(x, "t9,1,1");
        due.is("these leave them", x.back(), 1);
        due.is("weight", x.of(0, 1), 10);
        due.is("back()", x.back(), 0);
        due.is("twist", x.of(2, 0), -4);
        due.is("back()", x.back(), -5);
        tenSteps();
        noneLeft();
    }

    private static void tenSteps() {
        YarnPlier x = Scenes.twists(0);
        for (int i = 1; i <= 12; i++) {
            x.set(0, 0, i);
            due.is("steps", x.count(4), Math.min(i, 10));
        }
        for (int i = 9; i >= 0; i--) {
            due.is("back()", x.back(), i);
            due.is("twist", x.of(0, 0), i + 2);
        }
        due.is("the eldest are none any more", x.back(), -5);
        due.is("twist", x.of(0, 0), 2);
    }

    private static void noneLeft() {
        YarnPlier x = stocked();
        x.make(2, 1);
        due.is("behind make()", x.back(), -5);
        x.set(0, 0, 1);
        x.job(2, 1);
        x.do1();
        due.is("behind do1()", x.back(), -5);
        x.set(0, 0, 2);
        Scenes.text(x, "s0,5");
        due.is("behind read()", x.back(), -5);
        x.set(0, 0, 3);
        due.is("one act of two", Scenes.text(x, "s0,5;s77,5"), -201);
        due.is("behind read() of one act", x.back(), -5);
        x.image();
        x.set(0, 0, 4);
        x.undo();
        due.is("behind undo()", x.back(), -5);
        x.set(0, 0, 5);
        x.clear();
        due.is("behind clear()", x.back(), -5);
        YarnPlier y = stocked();
        y.undo();
        due.is("a refused undo() leaves them", y.count(4), 2);
    }

    public static void main(String[] args) {
        job();
        do1();
        strike();
        about();
        jobOf();
        back();
        due.end();
    }
}
