import java.util.ArrayList;
import java.util.Arrays;
import java.util.Collections;
import java.util.List;
import java.util.regex.Matcher;
import java.util.regex.Pattern;

/**
 * The document once more, written as slowly and as literally as can be (recursion, every order, every yard),
 * so that YarnPlier's answers can be held against it.
 */
final class PlainBench {
    static final int BAD = -1, NOT = -2, FULL = -3, STATE = -5, VOID = Integer.MIN_VALUE;

    private static final String NUMBER = "[0-9]{1,5}";
    private static final String ACT = "(?:t" + NUMBER + "," + NUMBER + ",-?" + NUMBER
            + "|p" + NUMBER + "(?:," + NUMBER + "){1,3}:-?" + NUMBER
            + "|[sm]" + NUMBER + "," + NUMBER + ")";
    private static final Pattern TEXT = Pattern.compile(ACT + "(?:;" + ACT + ")*");

    private static final class Yarn {
        int fibre = -1;
        int weight = -1;
        int twist;
        int stock;
        List<Integer> parts = new ArrayList<>();

        boolean plied() {
            return !parts.isEmpty();
        }

        Yarn copy() {
            Yarn y = new Yarn();
            y.fibre = fibre;
            y.weight = weight;
            y.twist = twist;
            y.stock = stock;
            y.parts = new ArrayList<>(parts);
            return y;
        }
    }

    private List<Yarn> yarns = new ArrayList<>();
    private List<int[]> layers = new ArrayList<>();
    private List<int[]> jobs = new ArrayList<>();
    private List<Yarn> imageYarns;
    private List<int[]> imageLayers;
    private List<int[]> imageJobs;
    private final List<Integer> bundle = new ArrayList<>();
    private final List<int[]> steps = new ArrayList<>();
    private final StringBuilder tape = new StringBuilder();
    private final int[][] rows = new int[3][];
    private int[] tally = new int[4];

    private boolean no(int yarn) {
        return yarn < 0 || yarn >= yarns.size();
    }

    private static boolean out(int v, int least, int most) {
        return v < least || v > most;
    }

    int thread(int fibre, int weight, int twist) {
        if (out(fibre, 0, 3) || out(weight, 1, 99) || out(twist, -99, 99)) return BAD;
        if (yarns.size() == 16) return FULL;
        Yarn y = new Yarn();
        y.fibre = fibre;
        y.weight = weight;
        y.twist = twist;
        yarns.add(y);
        return yarns.size() - 1;
    }

    int part(int yarn) {
        if (no(yarn)) return BAD;
        if (bundle.size() == 4) return FULL;
        if (depth(yarn) == 3) return STATE;
        bundle.add(yarn);
        return bundle.size();
    }

    int ply(int twist) {
        if (out(twist, -99, 99)) return BAD;
        if (bundle.size() < 2) return STATE;
        if (yarns.size() == 16) return FULL;
        Yarn y = new Yarn();
        y.twist = twist;
        y.parts.addAll(bundle);
        bundle.clear();
        yarns.add(y);
        return yarns.size() - 1;
    }

    int clear() {
        int n = yarns.size();
        yarns.clear();
        layers.clear();
        jobs.clear();
        steps.clear();
        bundle.clear();
        return n;
    }

    int set(int what, int yarn, int v) {
        if (out(what, 0, 3) || no(yarn)) return VOID;
        if (what == 0 && out(v, -99, 99)) return VOID;
        if (what == 1 && out(v, 1, 99)) return VOID;
        if (what == 2 && out(v, 0, 3)) return VOID;
        if (what == 3 && out(v, 0, 99999)) return VOID;
        if ((what == 1 || what == 2) && yarns.get(yarn).plied()) return -10000;
        int was = of(yarn, what);
        write(what, yarn, v);
        if (was != v) steps.add(new int[] {what, yarn, was});
        if (steps.size() > 10) steps.remove(0);
        return was;
    }

    private void write(int what, int yarn, int v) {
        Yarn y = yarns.get(yarn);
        if (what == 0) y.twist = v;
        if (what == 1) y.weight = v;
        if (what == 2) y.fibre = v;
        if (what == 3) y.stock = v;
    }

    private int depth(int yarn) {
        int deepest = -1;
        for (int part : yarns.get(yarn).parts) deepest = Math.max(deepest, depth(part));
        return deepest + 1;
    }

    /** Each leaf as the row of yarns from the outermost to the thread. */
    private List<List<Integer>> leaves(int yarn) {
        List<List<Integer>> all = new ArrayList<>();
        if (!yarns.get(yarn).plied()) {
            all.add(new ArrayList<>(List.of(yarn)));
        }
        for (int part : yarns.get(yarn).parts) {
            for (List<Integer> way : leaves(part)) {
                way.add(0, yarn);
                all.add(way);
            }
        }
        return all;
    }

    private int by(int yarn) {
        Yarn y = yarns.get(yarn);
        return 1000 - Math.abs(y.twist) * y.parts.size();
    }

    int of(int yarn, int what) {
        if (no(yarn)) return VOID;
        Yarn y = yarns.get(yarn);
        switch (what) {
            case 0: return y.twist;
            case 1: return y.weight;
            case 2: return y.fibre;
            case 3: return y.stock;
            case 4: return y.parts.size();
            case 5: return depth(yarn);
            case 6: return leaves(yarn).size();
            case 7: return y.plied() ? by(yarn) : 1000;
            default: return VOID;
        }
    }

    int partOf(int yarn, int i) {
        if (no(yarn) || i < 0) return BAD;
        if (i >= yarns.get(yarn).parts.size()) return NOT;
        return yarns.get(yarn).parts.get(i);
    }

    private List<Integer> wayTo(int yarn, int i) {
        if (no(yarn) || i < 0 || i >= leaves(yarn).size()) return null;
        return leaves(yarn).get(i);
    }

    int leaf(int yarn, int i, int what) {
        List<Integer> way = wayTo(yarn, i);
        if (way == null || out(what, 0, 1)) return VOID;
        if (what == 0) return way.get(way.size() - 1);
        int turn = 0;
        for (int y : way) turn += yarns.get(y).twist;
        return turn;
    }

    private int torque(int yarn, int around, int[] asked) {
        Yarn y = yarns.get(yarn);
        int r = around + y.twist;
        if (y.plied()) {
            int sum = r * y.parts.size();
            for (int part : y.parts) sum += torque(part, r, asked);
            return sum;
        }
        asked[y.fibre]++;
        switch (y.fibre) {
            case 0: return y.weight * r;
            case 1: return 2 * y.weight * r;
            case 2: return (r < 0 ? -1 : 1) * (y.weight * Math.abs(r) / 2);
            default:
                int more = Math.max(0, Math.abs(r) - 20);
                return y.weight * r + (r < 0 ? -1 : 1) * y.weight * more;
        }
    }

    private int torqueOf(int yarn) {
        return torque(yarn, 0, new int[4]);
    }

    private int torqueWith(int yarn, int at, int twist) {
        int was = yarns.get(at).twist;
        yarns.get(at).twist = twist;
        int answer = torqueOf(yarn);
        yarns.get(at).twist = was;
        return answer;
    }

    int torque(int yarn) {
        if (no(yarn)) return VOID;
        tally = new int[4];
        return torque(yarn, 0, tally);
    }

    int tally(int fibre) {
        return out(fibre, 0, 3) ? BAD : tally[fibre];
    }

    long kept(int yarn, int i, int part) {
        List<Integer> way = wayTo(yarn, i);
        if (way == null || out(part, 0, 1)) return VOID;
        long above = 1;
        long below = 1;
        for (int y : way.subList(0, way.size() - 1)) {
            above *= by(y);
            below *= 1000;
        }
        for (long prime : new long[] {2, 5}) {
            while (above % prime == 0 && below % prime == 0) {
                above /= prime;
                below /= prime;
            }
        }
        return part == 0 ? above : below;
    }

    private int needsOf(List<Integer> way, int yards) {
        int need = yards;
        for (int y : way.subList(0, way.size() - 1)) {
            int times = need * 1000;
            need = times / by(y);
            if (times % by(y) != 0) need++;
        }
        return need;
    }

    int needs(int yarn, int i, int yards) {
        List<Integer> way = wayTo(yarn, i);
        if (way == null || out(yards, 0, 9999)) return BAD;
        return needsOf(way, yards);
    }

    private int heavyOf(int yarn, int yards) {
        long sum = 0;
        for (List<Integer> way : leaves(yarn)) {
            sum += (long) yarns.get(way.get(way.size() - 1)).weight * needsOf(way, yards);
        }
        return (int) (sum / 100);
    }

    int heavy(int yarn, int yards) {
        return no(yarn) || out(yards, 0, 9999) ? BAD : heavyOf(yarn, yards);
    }

    private boolean isInside(int at, int yarn) {
        if (at == yarn) return true;
        for (int part : yarns.get(yarn).parts) {
            if (isInside(at, part)) return true;
        }
        return false;
    }

    int balance(int yarn, int at, int what) {
        if (no(yarn) || no(at) || out(what, 0, 1)) return VOID;
        if (!isInside(at, yarn)) return -10000000;
        int best = -99;
        for (int t = -99; t <= 99; t++) {
            int now = Math.abs(torqueWith(yarn, at, t));
            int then = Math.abs(torqueWith(yarn, at, best));
            boolean better = now < then || now == then && Math.abs(t) < Math.abs(best);
            if (better) best = t;
        }
        return what == 0 ? best : torqueWith(yarn, at, best);
    }

    int plan(int yarn, int twist, int wish, int what) {
        if (no(yarn) || yarns.get(yarn).plied() || out(twist, -99, 99) || out(wish, 0, 9999) || out(what, 0, 1)) return BAD;
        int best = 0;
        int bestHeavy = 0;
        for (int n = 4; n >= 2; n--) {
            Yarn tried = new Yarn();
            tried.twist = twist;
            tried.parts = Collections.nCopies(n, yarn);
            yarns.add(tried);
            int heavy = heavyOf(yarns.size() - 1, 100);
            yarns.remove(yarns.size() - 1);
            if (best == 0 || Math.abs(heavy - wish) <= Math.abs(bestHeavy - wish)) {
                best = n;
                bestHeavy = heavy;
            }
        }
        return what == 0 ? best : bestHeavy;
    }

    private boolean makeable(int yarn, int yards, List<List<Integer>> leaves) {
        int[] left = new int[16];
        for (int y = 0; y < yarns.size(); y++) left[y] = yarns.get(y).stock;
        for (List<Integer> way : leaves) {
            int thread = way.get(way.size() - 1);
            left[thread] -= needsOf(way, yards);
            if (left[thread] < 0) return false;
        }
        return yarns.get(yarn).stock + yards <= 99999;
    }

    int can(int yarn) {
        if (no(yarn)) return BAD;
        if (!yarns.get(yarn).plied()) return STATE;
        List<List<Integer>> leaves = leaves(yarn);
        int yards = 0;
        while (yards < 9999 && makeable(yarn, yards + 1, leaves)) yards++;
        return yards;
    }

    private boolean same(int one, int other, int sign) {
        Yarn a = yarns.get(one);
        Yarn b = yarns.get(other);
        if (a.plied() != b.plied() || a.twist != sign * b.twist || a.parts.size() != b.parts.size()) return false;
        if (!a.plied()) return a.fibre == b.fibre && a.weight == b.weight;
        for (int i = 0; i < a.parts.size(); i++) {
            if (!same(a.parts.get(i), b.parts.get(i), sign)) return false;
        }
        return true;
    }

    int alike(int one, int other, int what) {
        if (no(one) || no(other) || out(what, 0, 1)) return BAD;
        return same(one, other, what == 0 ? 1 : -1) ? 1 : 0;
    }

    int inside(int yarn) {
        if (no(yarn)) return BAD;
        int bits = 0;
        for (int y = 0; y < yarns.size(); y++) {
            if (isInside(y, yarn)) bits |= 1 << y;
        }
        return bits;
    }

    private int makeNow(int yarn, int yards) {
        if (no(yarn) || out(yards, 1, 9999)) return BAD;
        if (!yarns.get(yarn).plied() || !makeable(yarn, yards, leaves(yarn))) return STATE;
        for (List<Integer> way : leaves(yarn)) {
            yarns.get(way.get(way.size() - 1)).stock -= needsOf(way, yards);
        }
        yarns.get(yarn).stock += yards;
        return yarns.get(yarn).stock;
    }

    int make(int yarn, int yards) {
        int answer = makeNow(yarn, yards);
        if (answer >= 0) steps.clear();
        return answer;
    }

    int lay(int yarn, int rowsOf, int way) {
        if (yarn == -1) {
            layers.clear();
            return 0;
        }
        if (no(yarn) || out(rowsOf, 1, 40) || out(way, 0, 1)) return BAD;
        if (layers.size() == 8) return FULL;
        layers.add(new int[] {yarn, rowsOf, way});
        return layers.size();
    }

    private static int skew(int[] pulls, int k) {
        int sum = 0;
        for (int i = 0; i < k; i++) sum += pulls[i];
        return sum;
    }

    private static int worst(int[] pulls) {
        int worst = 0;
        for (int k = 1; k <= pulls.length; k++) worst = Math.max(worst, Math.abs(skew(pulls, k)));
        return worst;
    }

    private int[] layerPulls() {
        int[] pulls = new int[layers.size()];
        for (int i = 0; i < pulls.length; i++) {
            int[] layer = layers.get(i);
            pulls[i] = torqueOf(layer[0]) * layer[1] * (layer[2] == 1 ? -1 : 1);
        }
        return pulls;
    }

    int skew(int k) {
        return out(k, 0, layers.size()) ? VOID : skew(layerPulls(), k);
    }

    int worst() {
        return worst(layerPulls());
    }

    private int[] bestOrder;
    private int bestWorst;

    private void tryOrders(int[] pulls, int[] order, int laid, int skew, int worst) {
        if (laid == pulls.length) {
            if (bestOrder == null || worst < bestWorst) {
                bestOrder = order.clone();
                bestWorst = worst;
            }
            return;
        }
        for (int next = 0; next < pulls.length; next++) {
            boolean free = true;
            for (int i = 0; i < laid; i++) free &= order[i] != next;
            if (free) {
                order[laid] = next;
                int then = skew + pulls[next];
                tryOrders(pulls, order, laid + 1, then, Math.max(worst, Math.abs(then)));
            }
        }
    }

    int order(int k) {
        if (out(k, -1, layers.size() - 1)) return BAD;
        int[] pulls = layerPulls();
        bestOrder = null;
        tryOrders(pulls, new int[pulls.length], 0, 0, 0);
        return k == -1 ? bestWorst : bestOrder[k];
    }

    int turned() {
        int least = worst();
        int found = NOT;
        for (int i = 0; i < layers.size(); i++) {
            layers.get(i)[2] = 1 - layers.get(i)[2];
            int now = worst();
            layers.get(i)[2] = 1 - layers.get(i)[2];
            if (now < least) {
                least = now;
                found = i;
            }
        }
        return found;
    }

    private boolean tells(int[] row, int n, int yarn, int at) {
        for (int t = 0; t < n; t++) {
            if (row[t] != torqueWith(yarn, at, t)) return false;
        }
        return true;
    }

    int fits(int row, int n, int yarn, int ta, int what) {
        if (out(row, 0, 2) || out(n, 0, 40) || no(yarn) || ta < 0 || no(ta / 16) || no(ta % 16)
                || yarns.get(ta / 16).plied() || out(what, 0, 2)) return BAD;
        int at = ta % 16;
        Yarn thread = yarns.get(ta / 16);
        if (!isInside(at, yarn)) return STATE;
        if (rows[row] == null) return -11;
        if (n > rows[row].length) return -13;
        int bits = 0;
        int many = 0;
        int least = NOT;
        int fibre = thread.fibre;
        int weight = thread.weight;
        for (int f = 0; f < 4; f++) {
            thread.fibre = f;
            if (tells(rows[row], n, yarn, at)) bits += 1 << f;
        }
        thread.fibre = fibre;
        for (int w = 1; w <= 99; w++) {
            thread.weight = w;
            if (tells(rows[row], n, yarn, at)) {
                many++;
                if (least == NOT) least = w;
            }
        }
        thread.weight = weight;
        return what == 0 ? bits : what == 1 ? many : least;
    }

    int job(int yarn, int yards) {
        if (no(yarn) || out(yards, 1, 9999)) return BAD;
        if (!yarns.get(yarn).plied()) return STATE;
        if (jobs.size() == 8) return FULL;
        jobs.add(new int[] {yarn, yards});
        return jobs.size();
    }

    int do1() {
        if (jobs.isEmpty()) return NOT;
        if (makeNow(jobs.get(0)[0], jobs.get(0)[1]) < 0) return STATE;
        jobs.remove(0);
        steps.clear();
        return jobs.size();
    }

    int strike(int yarn) {
        if (no(yarn)) return BAD;
        int were = jobs.size();
        jobs.removeIf(j -> j[0] == yarn);
        return were - jobs.size();
    }

    int about() {
        Collections.reverse(jobs);
        return jobs.size();
    }

    int jobOf(int i, int what) {
        if (out(what, 0, 1)) return BAD;
        return out(i, 0, jobs.size() - 1) ? NOT : jobs.get(i)[what];
    }

    int back() {
        if (steps.isEmpty()) return STATE;
        int[] step = steps.remove(steps.size() - 1);
        write(step[0], step[1], step[2]);
        return steps.size();
    }

    int feed(int letter) {
        if (out(letter, 32, 126)) return BAD;
        if (tape.length() == 80) return FULL;
        tape.append((char) letter);
        return tape.length();
    }

    int wipe() {
        int had = tape.length();
        tape.setLength(0);
        return had;
    }

    private static boolean goesOn(String text) {
        Matcher matcher = TEXT.matcher(text);
        return matcher.matches() || matcher.hitEnd();
    }

    int read() {
        String text = tape.toString();
        tape.setLength(0);
        for (int k = 0; k < text.length(); k++) {
            if (!goesOn(text.substring(0, k + 1))) return -100 - k;
        }
        if (!TEXT.matcher(text).matches()) return -100 - text.length();
        int done = 0;
        for (String act : text.split(";")) {
            if (!act(act)) return -200 - done;
            done++;
            steps.clear();
        }
        return done;
    }

    private boolean act(String act) {
        String[] words = act.substring(1).split("[,:]");
        int[] v = Arrays.stream(words).mapToInt(Integer::parseInt).toArray();
        switch (act.charAt(0)) {
            case 't':
                return thread(v[0], v[1], v[2]) >= 0;
            case 'p':
                List<Integer> held = new ArrayList<>(bundle);
                bundle.clear();
                boolean fine = true;
                for (int i = 0; i < v.length - 1; i++) fine &= part(v[i]) >= 0;
                fine = fine && ply(v[v.length - 1]) >= 0;
                bundle.clear();
                bundle.addAll(held);
                return fine;
            case 's':
                if (no(v[0]) || v[1] > 99999) return false;
                yarns.get(v[0]).stock = v[1];
                return true;
            default:
                return makeNow(v[0], v[1]) >= 0;
        }
    }

    int row(int row, int n) {
        if (out(row, 0, 2) || n > 40) return BAD;
        if (n < -1) return -14;
        rows[row] = n == -1 ? null : new int[n];
        return 1;
    }

    int put(int row, int i, int v) {
        if (out(row, 0, 2)) return BAD;
        if (rows[row] == null) return -11;
        if (out(i, 0, rows[row].length - 1)) return -13;
        rows[row][i] = v;
        return 1;
    }

    int get(int row, int i) {
        if (out(row, 0, 2) || rows[row] == null || out(i, 0, rows[row].length - 1)) return VOID;
        return rows[row][i];
    }

    int film(int row, int n, int yarn, int at) {
        if (out(row, 0, 2) || out(n, 0, 40) || no(yarn) || no(at)) return BAD;
        if (!isInside(at, yarn)) return STATE;
        rows[row] = new int[n];
        for (int t = 0; t < n; t++) rows[row][t] = torqueWith(yarn, at, t);
        return n;
    }

    private static List<Yarn> copyYarns(List<Yarn> from) {
        List<Yarn> to = new ArrayList<>();
        for (Yarn y : from) to.add(y.copy());
        return to;
    }

    private static List<int[]> copyLines(List<int[]> from) {
        List<int[]> to = new ArrayList<>();
        for (int[] line : from) to.add(line.clone());
        return to;
    }

    int image() {
        imageYarns = copyYarns(yarns);
        imageLayers = copyLines(layers);
        imageJobs = copyLines(jobs);
        return yarns.size();
    }

    int undo() {
        if (imageYarns == null) return STATE;
        yarns = copyYarns(imageYarns);
        layers = copyLines(imageLayers);
        jobs = copyLines(imageJobs);
        bundle.clear();
        steps.clear();
        return yarns.size();
    }

    int count(int what) {
        switch (what) {
            case 0: return yarns.size();
            case 1: return bundle.size();
            case 2: return layers.size();
            case 3: return jobs.size();
            case 4: return steps.size();
            case 5: return tape.length();
            case 6:
                int balanced = 0;
                for (int y = 0; y < yarns.size(); y++) {
                    if (torqueOf(y) == 0) balanced++;
                }
                return balanced;
            default: return BAD;
        }
    }
}
