import java.lang.reflect.InvocationTargetException;
import java.lang.reflect.Method;
import java.lang.reflect.Modifier;
import java.util.ArrayList;
import java.util.Arrays;
import java.util.Comparator;
import java.util.List;

/** Runs of calls drawn by a fixed rule, each answer held against PlainBench's. First argument: how many runs. */
public final class RandomRunsTest {
    private static final int CALLS = 512;
    private static final int[] FAR = {Integer.MIN_VALUE, Integer.MAX_VALUE, Integer.MIN_VALUE + 1, 1 << 20, -1000};

    private final Due due;
    private final List<Method> calls;
    private long seed;
    private YarnPlier real;
    private PlainBench plain;
    private final List<String> told = new ArrayList<>();
    private boolean off;

    private RandomRunsTest(Due due, List<Method> calls) {
        this.due = due;
        this.calls = calls;
    }

    private int draw(int below) {
        seed = seed * 6364136223846793005L + 1442695040888963407L;
        return (int) ((seed >>> 33) % below);
    }

    private int from(int least, int most) {
        return least + draw(most - least + 1);
    }

    /** Mostly within the range, sometimes at its edge, sometimes beside it or far off. */
    private int near(int least, int most) {
        int how = draw(40);
        if (how == 0) return least - 1;
        if (how == 1) return most + 1;
        if (how == 2) return FAR[draw(FAR.length)];
        if (how < 6) return least;
        if (how < 9) return most;
        return from(least, most);
    }

    private int yarn() {
        return near(0, Math.max(0, plain.count(0) - 1));
    }

    private int twist() {
        return draw(3) == 0 ? near(-3, 3) : near(-99, 99);
    }

    private int yards() {
        return draw(3) == 0 ? near(0, 9999) : from(1, 300);
    }

    private int stock() {
        int how = draw(4);
        return how == 0 ? near(0, 99999) : how == 1 ? from(80000, 99999) : from(0, 4000);
    }

    private int thread() {
        return yarnOf(0, 0);
    }

    private int plied() {
        return yarnOf(2, 4);
    }

    private int yarnOf(int fewest, int most) {
        for (int tries = 0; tries < 8; tries++) {
            int yarn = yarn();
            int parts = plain.of(yarn, 4);
            if (parts >= fewest && parts <= most) return yarn;
        }
        return yarn();
    }

    private int insideOf(int yarn) {
        if (draw(4) != 0) {
            int bits = Math.max(0, plain.inside(yarn));
            int at = draw(16);
            for (int i = 0; i < 16; i++) {
                if ((bits >> (at + i) % 16 & 1) == 1) return (at + i) % 16;
            }
        }
        return yarn();
    }

    private int[] args(String name) {
        int yarn = yarn();
        switch (name) {
            case "thread": return new int[] {near(0, 3), near(1, 99), twist()};
            case "part": case "torque": case "inside": return new int[] {yarn};
            case "can": case "strike": return new int[] {plied()};
            case "ply": return new int[] {twist()};
            case "set": return setArgs(near(0, 3), yarn);
            case "of": return new int[] {yarn, near(0, 7)};
            case "partOf": return new int[] {yarn, near(0, 3)};
            case "leaf": case "kept": return new int[] {yarn, leafOf(yarn), near(0, 1)};
            case "tally": return new int[] {near(0, 3)};
            case "needs": return new int[] {yarn, leafOf(yarn), yards()};
            case "heavy": return new int[] {yarn, yards()};
            case "make": case "job": return new int[] {plied(), yards()};
            case "balance": return new int[] {yarn, insideOf(yarn), near(0, 1)};
            case "plan": return new int[] {thread(), twist(), draw(2) == 0 ? from(0, 400) : near(0, 9999), near(0, 1)};
            case "alike": return new int[] {yarn, yarn(), near(0, 1)};
            case "lay": return new int[] {draw(60) == 0 ? -1 : yarn, draw(2) == 0 ? from(1, 4) : near(1, 40), near(0, 1)};
            case "skew": return new int[] {near(0, plain.count(2))};
            case "order": return new int[] {near(-1, plain.count(2) - 1)};
            case "fits": return new int[] {near(0, 2), draw(3) == 0 ? near(0, 40) : from(0, 3), yarn, ta(yarn), near(0, 2)};
            case "jobOf": return new int[] {near(0, 7), near(0, 1)};
            case "feed": return new int[] {near(32, 126)};
            case "row": return new int[] {near(0, 2), draw(2) == 0 ? near(-1, 40) : from(0, 4)};
            case "put": return new int[] {near(0, 2), near(0, 4), near(-50, 50)};
            case "get": return new int[] {near(0, 2), near(0, 39)};
            case "film": return new int[] {near(0, 2), draw(2) == 0 ? near(0, 40) : from(0, 4), yarn, insideOf(yarn)};
            case "count": return new int[] {near(0, 6)};
            default: return new int[0];
        }
    }

    private int[] setArgs(int what, int yarn) {
        int v = what == 0 ? twist() : what == 1 ? near(1, 99) : what == 2 ? near(0, 3) : stock();
        return new int[] {what, yarn, v};
    }

    private int leafOf(int yarn) {
        return near(0, Math.max(1, plain.of(yarn, 6)) - 1);
    }

    private int ta(int yarn) {
        return draw(12) == 0 ? near(0, 255) : 16 * thread() + insideOf(yarn);
    }

    private String number(int v) {
        return draw(12) == 0 ? "00" + v : Integer.toString(v);
    }

    private String signed(int v) {
        return v < 0 ? "-" + number(-Math.max(v, -99999)) : number(Math.min(v, 99999));
    }

    private String act() {
        String first = number(draw(plain.count(0) + 2));
        switch (draw(5)) {
            case 0: return "t" + number(draw(4)) + "," + number(from(1, 99)) + "," + signed(from(-99, 99));
            case 1:
                StringBuilder parts = new StringBuilder("p" + first);
                for (int i = from(1, 3); i > 0; i--) parts.append(',').append(draw(plain.count(0) + 1));
                return parts + ":" + signed(from(-99, 99));
            case 2: return "t" + signed(Math.abs(draw(6))) + "," + number(draw(102)) + "," + signed(from(-101, 101));
            case 3: return "s" + first + "," + number(from(0, 99999));
            default: return "m" + first + "," + number(from(0, 400));
        }
    }

    private String text() {
        StringBuilder text = new StringBuilder(act());
        for (int i = draw(5); i > 0; i--) text.append(';').append(act());
        if (draw(3) == 0) {
            String signs = "tpsm0123456789,:;- x";
            int at = draw(text.length());
            int how = draw(3);
            if (how == 0) text.setCharAt(at, signs.charAt(draw(signs.length())));
            if (how == 1) text.insert(at, signs.charAt(draw(signs.length())));
            if (how == 2) text.setLength(at);
        }
        if (text.length() > 80) text.setLength(80);
        return text.toString();
    }

    private void ask(String name, int... args) throws Exception {
        for (Method call : calls) {
            if (call.getName().equals(name)) ask(call, args);
        }
    }

    private void ask(Method call, int... args) throws Exception {
        if (off) return;
        Object[] given = Arrays.stream(args).boxed().toArray();
        Method other = PlainBench.class.getDeclaredMethod(call.getName(), call.getParameterTypes());
        long want = ((Number) other.invoke(plain, given)).longValue();
        String words = call.getName() + Arrays.toString(args);
        told.add(words);
        long got;
        try {
            got = ((Number) call.invoke(real, given)).longValue();
        } catch (InvocationTargetException thrown) {
            due.holds(words + " threw " + thrown.getCause(), false);
            got = want;
            off = true;
        }
        due.is(words, got, want);
        if (got != want) {
            off = true;
            System.out.println("the run: " + told);
        }
    }

    private String nextName(int building) {
        int how = draw(100);
        if (how < building) return draw(3) == 0 ? "ply" : draw(2) == 0 ? "part" : "thread";
        if (how < building + 12) return "set";
        if (how < building + 16) return "lay";
        if (how < building + 19) return "job";
        if (how < building + 21) return "do1";
        String name = calls.get(draw(calls.size())).getName();
        boolean seldom = name.equals("clear") || name.equals("undo") || name.equals("row");
        return seldom && draw(4) != 0 ? "count" : name;
    }

    /** A bench with something on it: without it most yarns would be threads without stock. */
    private void furnish() throws Exception {
        for (int i = from(1, 5); i > 0; i--) ask("thread", args("thread"));
        for (int i = from(0, 6); i > 0; i--) {
            for (int parts = from(2, 4); parts > 0; parts--) ask("part", args("part"));
            ask("ply", twist());
        }
        for (int i = from(0, 6); i > 0; i--) ask("set", 3, thread(), draw(2) == 0 ? stock() : 99999);
    }

    private void filmAndFit() throws Exception {
        int yarn = plied();
        int at = insideOf(yarn);
        int row = draw(3);
        int n = draw(2) == 0 ? from(0, 4) : from(0, 40);
        ask("film", row, n, yarn, at);
        if (draw(4) == 0) ask("put", row, draw(n + 1), from(-30, 30));
        int ta = 16 * thread() + at;
        for (int what = 0; what < 3; what++) ask("fits", row, draw(4) == 0 ? draw(41) : n, yarn, ta, what);
    }

    private void feedAndRead() throws Exception {
        if (draw(4) != 0) ask("wipe");
        for (char letter : text().toCharArray()) ask("feed", letter);
        if (draw(10) == 0) {
            for (int i = 0; i < 81; i++) ask("feed", near(32, 126));
        }
        ask("read");
    }

    private void run(int number) throws Exception {
        seed = number * 7919L + 17;
        real = new YarnPlier();
        plain = new PlainBench();
        told.clear();
        off = false;
        due.part("run " + number);
        int building = from(0, 20);
        if (draw(5) != 0) furnish();
        while (told.size() < CALLS && !off) {
            int how = draw(60);
            if (how == 0) {
                feedAndRead();
            } else if (how == 1) {
                filmAndFit();
            } else if (how == 2 && plain.count(0) == 0) {
                furnish();
            } else {
                String name = nextName(building);
                ask(name, args(name));
            }
        }
    }

    public static void main(String[] args) throws Exception {
        int runs = args.length > 0 ? Integer.parseInt(args[0]) : 300;
        List<Method> calls = new ArrayList<>();
        for (Method call : YarnPlier.class.getDeclaredMethods()) {
            if (Modifier.isPublic(call.getModifiers())) calls.add(call);
        }
        calls.sort(Comparator.comparing(Method::getName));
        Due due = new Due();
        RandomRunsTest test = new RandomRunsTest(due, calls);
        for (int run = 0; run < runs; run++) test.run(run);
        due.end();
    }
}
