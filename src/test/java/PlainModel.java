import java.math.BigInteger;
import java.util.ArrayList;
import java.util.HashMap;
import java.util.List;
import java.util.Map;
import java.util.NoSuchElementException;
import java.util.regex.Matcher;
import java.util.regex.Pattern;

/**
 * The document once more, in its plainest form: everything is kept as lists and is worked out anew for each
 * question, odds as whole numbers of any size. It is slow and serves only to be compared with.
 */
final class PlainModel {
    static final int NONE = -1;
    private static final String[] NAMES =
        {"chance", "log", "window", "start", "block", "out", "bias", "stick", "seed"};
    private static final int[] LOW = {8, 1, 4, 0, 2, 1, 0, 0, 0};
    private static final int[] HIGH = {15, 40, 15, 200, 64, 16, 16, 15, 9999};
    private static final Pattern TOKEN = Pattern.compile("[a-z]+|[0-9]+|;");

    static final class State {
        String text = "";
        int fault = 0;
        int place = NONE;
        int[] set = {10, 20, 15, 32, 16, 4, 8, 0, 1};
        List<int[]> stuck = new ArrayList<>();
        int x = 1;
        List<Integer> drawn = new ArrayList<>();
        List<Integer> listened = new ArrayList<>();
        List<List<Integer>> starts = new ArrayList<>();
        int mode = 0;
        int failed = 0;
        int alarms = 0;
        List<Integer> block = new ArrayList<>();
        List<Integer> pool = new ArrayList<>();
        int came = 0;
        int wasted = 0;
        int taken = 0;
        int gone = 0;

        State copy() {
            State s = new State();
            s.text = text;
            s.fault = fault;
            s.place = place;
            s.set = set.clone();
            s.stuck = new ArrayList<>(stuck);
            s.x = x;
            s.drawn = new ArrayList<>(drawn);
            s.listened = new ArrayList<>(listened);
            for (List<Integer> start : starts) {
                s.starts.add(new ArrayList<>(start));
            }
            s.mode = mode;
            s.failed = failed;
            s.alarms = alarms;
            s.block = new ArrayList<>(block);
            s.pool = new ArrayList<>(pool);
            s.came = came;
            s.wasted = wasted;
            s.taken = taken;
            s.gone = gone;
            return s;
        }
    }

    State s = new State();
    private final Map<Integer, State> images = new HashMap<>();
    private final Map<String, int[]> limitsSeen = new HashMap<>();

    // ---- the text

    int tell(long eight) {
        StringBuilder more = new StringBuilder();
        for (int shift = 56; shift >= 0; shift -= 8) {
            int b = (int) (eight >> shift & 0xff);
            if (b == 0) {
                break;
            }
            more.append((char) b);
        }
        if (s.text.length() + more.length() > 300) {
            return NONE;
        }
        s.text += more;
        return s.text.length();
    }

    int settings() {
        String text = s.text;
        s.text = "";
        List<String> tokens = new ArrayList<>();
        List<Integer> places = new ArrayList<>();
        int at = 0;
        Matcher m = TOKEN.matcher(text);
        while (true) {
            while (at < text.length() && (text.charAt(at) == ' ' || text.charAt(at) == '\n')) {
                at++;
            }
            places.add(at);
            if (at == text.length()) {
                tokens.add("end");
                break;
            }
            if (!m.find(at) || m.start() != at || m.group().matches("[0-9]{5,}")) {
                tokens.add("?");
                break;
            }
            tokens.add(m.group().matches("end") ? "word" : m.group());
            at = m.end();
        }
        State fresh = new State();
        int fault = 0;
        int place = NONE;
        int i = 0;
        while (!tokens.get(i).equals("end")) {
            String word = tokens.get(i);
            int what = java.util.Arrays.asList(NAMES).indexOf(word);
            boolean isStuck = word.equals("stuck");
            if (what < 0 && !isStuck) {
                return refuse(1, places.get(i));
            }
            if (isStuck && fresh.stuck.size() == 4 && fault == 0) {
                fault = 3;
                place = places.get(i);
            }
            int many = isStuck ? 3 : 1;
            int[] numbers = new int[many];
            for (int k = 0; k < many; k++) {
                i++;
                if (!tokens.get(i).matches("[0-9]+")) {
                    return refuse(1, places.get(i));
                }
                numbers[k] = Integer.parseInt(tokens.get(i));
                boolean bad = isStuck
                    ? k == 1 && numbers[1] < numbers[0] || k == 2 && numbers[2] > 1
                    : numbers[0] < LOW[what] || numbers[0] > HIGH[what];
                if (bad && fault == 0) {
                    fault = 2;
                    place = places.get(i);
                }
            }
            i++;
            if (!tokens.get(i).equals(";")) {
                return refuse(1, places.get(i));
            }
            i++;
            if (isStuck) {
                fresh.stuck.add(numbers);
            } else {
                fresh.set[what] = numbers[0];
            }
        }
        if (fault != 0) {
            return refuse(fault, place);
        }
        fresh.x = fresh.set[8];
        s = fresh;
        return s.stuck.size();
    }

    private int refuse(int fault, int place) {
        s.fault = fault;
        s.place = place;
        return NONE;
    }

    int fault(boolean place) {
        return place ? s.place : s.fault;
    }

    // ---- odds

    private static BigInteger choose(int n, int k) {
        BigInteger ways = BigInteger.ONE;
        for (int i = 0; i < k; i++) {
            ways = ways.multiply(BigInteger.valueOf(n - i)).divide(BigInteger.valueOf(i + 1));
        }
        return ways;
    }

    /** Odds of c or more of n, each by p of q: what is above q to the n. */
    private static BigInteger atLeast(int n, int c, int p, int q) {
        BigInteger sum = BigInteger.ZERO;
        for (int k = Math.max(c, 0); k <= n; k++) {
            sum = sum.add(choose(n, k).multiply(BigInteger.valueOf(p).pow(k))
                .multiply(BigInteger.valueOf(q - p).pow(n - k)));
        }
        return sum;
    }

    private static boolean rare(int n, int c, int p, int q, int log) {
        return atLeast(n, c, p, q).shiftLeft(log).compareTo(BigInteger.valueOf(q).pow(n)) <= 0;
    }

    static int repeats(int chance, int log) {
        for (int c = 2; c < 16; c++) {
            if (BigInteger.valueOf(chance).pow(c - 1).shiftLeft(log)
                    .compareTo(BigInteger.valueOf(16).pow(c - 1)) <= 0) {
                return c;
            }
        }
        return 16;
    }

    static int proportion(int chance, int log, int window) {
        for (int c = 2; c <= window; c++) {
            if (rare(window - 1, c - 1, chance, 16, log)) {
                return c;
            }
        }
        return window + 1;
    }

    static int changes(int log, int window) {
        for (int c = 0; c <= window - 1; c++) {
            if (rare(window - 1, c, 1, 2, log)) {
                return c;
            }
        }
        return window;
    }

    static int rowsOf(int n, int chance, int log) {
        for (int c = 1; c <= n; c++) {
            if (rare(n, c, chance, 16, log)) {
                return c;
            }
        }
        return n + 1;
    }

    private int[] limits(int chance, int log, int window) {
        return limitsSeen.computeIfAbsent(chance + " " + log + " " + window,
            k -> new int[] {repeats(chance, log), proportion(chance, log, window), changes(log, window)});
    }

    private int earned() {
        return 9 * (16 - s.set[0]);
    }

    private int yielded() {
        return Math.min(s.set[5], earned() * s.set[4] / 100);
    }

    int limit(int what) {
        if (what >= 0 && what < 3) {
            return limits(s.set[0], s.set[1], s.set[2])[what];
        }
        if (what == 3) {
            return yielded();
        }
        if (what == 4) {
            return earned();
        }
        if (what >= 11 && what <= 25) {
            return rowsOf(what - 10, s.set[0], s.set[1]);
        }
        throw new NoSuchElementException();
    }

    long odds(int what, boolean under) {
        if (what != 0 && what != 1) {
            return NONE;
        }
        int n = s.set[2] - 1;
        int c = what == 0 ? limit(1) - 1 : limit(2);
        int p = what == 0 ? s.set[0] : 1;
        int q = what == 0 ? 16 : 2;
        BigInteger upper = atLeast(n, c, p, q);
        BigInteger lower = BigInteger.valueOf(q).pow(n);
        BigInteger both = upper.gcd(lower);
        return (under ? lower : upper).divide(both).longValueExact();
    }

    // ---- acts

    /** Alike at the end, SAMPLES in the last WINDOW, like its first one, unlike the one ahead. */
    private static int[] counts(List<Integer> since, int window) {
        int[] c = new int[4];
        int n = since.size();
        if (n == 0) {
            return c;
        }
        int last = since.get(n - 1);
        while (c[0] < n && since.get(n - 1 - c[0]) == last) {
            c[0]++;
        }
        int from = (n - 1) / window * window;
        for (int i = from; i < n; i++) {
            c[1]++;
            c[2] += since.get(i).intValue() == since.get(from) ? 1 : 0;
            c[3] += i > from && since.get(i).intValue() != since.get(i - 1) ? 1 : 0;
        }
        return c;
    }

    private int failures(List<Integer> since, int chance, int log) {
        int[] limits = limits(chance, log, s.set[2]);
        int[] c = counts(since, s.set[2]);
        return (c[0] >= limits[0] ? 1 : 0) + (c[2] >= limits[1] ? 2 : 0) + (c[3] >= limits[2] ? 4 : 0);
    }

    private List<Integer> since() {
        return s.starts.isEmpty() ? new ArrayList<>() : s.starts.get(s.starts.size() - 1);
    }

    private void lose() {
        s.gone += s.pool.size();
        s.pool.clear();
        s.block.clear();
    }

    int start() {
        lose();
        s.starts.add(new ArrayList<>());
        s.mode = s.set[3] == 0 ? 2 : 1;
        return s.starts.size();
    }

    boolean stop() {
        if (s.mode == 0) {
            return false;
        }
        lose();
        s.mode = 0;
        return true;
    }

    private int number() {
        s.x = s.x * 1103515245 + 12345;
        return (s.x >>> 16) % 16;
    }

    private int drawOne() {
        int sample;
        if (number() < s.set[7]) {
            sample = s.drawn.isEmpty() ? 0 : s.drawn.get(s.drawn.size() - 1);
        } else {
            sample = number() < s.set[6] ? 1 : 0;
        }
        for (int[] stuck : s.stuck) {
            if (stuck[0] <= s.drawn.size() && s.drawn.size() <= stuck[1]) {
                sample = stuck[2];
            }
        }
        s.drawn.add(sample);
        return sample;
    }

    private int hear(int sample) {
        if (s.mode == 0 || s.mode == 3) {
            return 0;
        }
        s.listened.add(sample);
        since().add(sample);
        int failed = failures(since(), s.set[0], s.set[1]);
        if (failed != 0) {
            s.failed = failed;
            s.alarms++;
            s.mode = 3;
            lose();
        } else if (since().size() > s.set[3]) {
            s.block.add(sample);
            if (s.block.size() == s.set[4]) {
                condition();
            }
        }
        if (s.mode == 1 && since().size() == s.set[3]) {
            s.mode = 2;
        }
        return 1;
    }

    /** The register as a division of polynomials, worked out once the BLOCK is whole. */
    private void condition() {
        BigInteger rest = BigInteger.ZERO;
        for (int bit : s.block) {
            rest = rest.shiftLeft(1).or(BigInteger.valueOf(bit));
        }
        rest = rest.shiftLeft(16);
        for (int top = rest.bitLength() - 1; top >= 16; top--) {
            if (rest.testBit(top)) {
                rest = rest.xor(BigInteger.valueOf(65536 + 4129).shiftLeft(top - 16));
            }
        }
        for (int k = yielded() - 1; k >= 0; k--) {
            if (s.pool.size() < 256) {
                s.pool.add(rest.testBit(k) ? 1 : 0);
                s.came++;
            } else {
                s.wasted++;
            }
        }
        s.block.clear();
    }

    int draw(int n) {
        if (n < 1 || n > 400) {
            return NONE;
        }
        int heard = 0;
        for (int i = 0; i < n; i++) {
            heard += hear(drawOne());
        }
        return heard;
    }

    int hand(int bits, int n) {
        if (n < 1 || n > 32) {
            return NONE;
        }
        int heard = 0;
        for (int i = n - 1; i >= 0; i--) {
            heard += hear(bits >> i & 1);
        }
        return heard;
    }

    int take(int n) {
        if (n < 1 || n > 30 || n > s.pool.size()) {
            return NONE;
        }
        int number = 0;
        for (int i = 0; i < n; i++) {
            number = 2 * number + s.pool.remove(0);
        }
        s.taken += n;
        return number;
    }

    // ---- what there is

    int count(int what) {
        int[] c = s.mode == 0 ? new int[4] : counts(since(), s.set[2]);
        int[] all = {s.set[0], s.set[1], s.set[2], s.set[3], s.set[4], s.set[5], s.set[6], s.set[7],
            s.stuck.size(), s.mode, s.failed, s.alarms, s.starts.size(), s.drawn.size(), s.listened.size(),
            since().size(), c[0], c[1], c[2], c[3], s.block.size(), s.pool.size(), s.came, s.wasted, s.taken,
            s.gone, history().size(), rows().size(), s.text.length()};
        return what < 0 || what >= all.length ? NONE : all[what];
    }

    private List<Integer> history() {
        return s.listened.subList(Math.max(0, s.listened.size() - 400), s.listened.size());
    }

    private List<List<Integer>> rows() {
        List<List<Integer>> rows = new ArrayList<>();
        for (int i = Math.max(0, s.starts.size() - 15); i < s.starts.size(); i++) {
            rows.add(s.starts.get(i).subList(0, Math.min(15, s.starts.get(i).size())));
        }
        return rows;
    }

    private static int at(List<Integer> list, int k) {
        return k < 0 || k >= list.size() ? NONE : list.get(k);
    }

    int history(int k) {
        return at(history(), k);
    }

    int pool(int k) {
        return at(s.pool, k);
    }

    int row(int row, int i, boolean many) {
        if (row < 0 || row >= rows().size()) {
            return NONE;
        }
        return many ? rows().get(row).size() : at(rows().get(row), i);
    }

    // ---- bounds

    private List<Integer> latest(int n, int least) {
        List<Integer> all = history();
        return n < least || n > all.size() ? null : all.subList(all.size() - n, all.size());
    }

    private static int more(List<Integer> list) {
        int ones = 0;
        for (int sample : list) {
            ones += sample;
        }
        return Math.max(ones, list.size() - ones);
    }

    private static int[] collision(List<Integer> list) {
        int[] of = {0, 0};
        int at = 0;
        while (at + 2 <= list.size()) {
            int step = list.get(at).intValue() == list.get(at + 1) ? 2 : 3;
            if (at + step > list.size()) {
                break;
            }
            at += step;
            of[0] += step;
            of[1]++;
        }
        return of;
    }

    private static int[] follow(List<Integer> list) {
        int[] best = null;
        for (int value = 0; value < 2; value++) {
            List<Integer> followers = new ArrayList<>();
            for (int i = 1; i < list.size(); i++) {
                if (list.get(i - 1) == value) {
                    followers.add(list.get(i));
                }
            }
            if (!followers.isEmpty()) {
                int[] of = {more(followers), followers.size()};
                if (best == null || of[0] * best[1] > best[0] * of[1]) {
                    best = of;
                }
            }
        }
        return best;
    }

    private int[] boundOf(int what, List<Integer> list) {
        return what == 0 ? new int[] {more(list), list.size()} : what == 1 ? collision(list) : follow(list);
    }

    int bound(int what, int n, boolean under) {
        List<Integer> list = latest(n, 2);
        return list == null || what < 0 || what > 2 ? NONE : boundOf(what, list)[under ? 1 : 0];
    }

    int holds(int n) {
        List<Integer> list = latest(n, 2);
        if (list == null) {
            return NONE;
        }
        int p = s.set[0];
        int bits = 0;
        bits += n * p >= 16 * boundOf(0, list)[0] ? 1 : 0;
        int[] c = boundOf(1, list);
        bits += 256 * c[0] >= c[1] * (512 + 2 * p * (16 - p)) ? 2 : 0;
        int[] f = boundOf(2, list);
        bits += f[1] * p >= 16 * f[0] ? 4 : 0;
        return bits;
    }

    int claim(int n) {
        List<Integer> list = latest(n, 2);
        if (list == null) {
            return NONE;
        }
        int c = 8;
        while (n * c < 16 * boundOf(0, list)[0] || boundOf(2, list)[1] * c < 16 * boundOf(2, list)[0]) {
            c++;
        }
        return c;
    }

    int tuple(int n, int t) {
        List<Integer> list = latest(n, 1);
        if (list == null || t < 1 || t > 8 || t > n) {
            return NONE;
        }
        Map<String, Integer> seen = new HashMap<>();
        int most = 0;
        for (int i = 0; i + t <= n; i++) {
            most = Math.max(most, seen.merge(list.subList(i, i + t).toString(), 1, Integer::sum));
        }
        return most;
    }

    boolean spreads(int n, int t) {
        int most = tuple(n, t);
        return most != NONE && BigInteger.valueOf(16).pow(t).multiply(BigInteger.valueOf(most))
            .compareTo(BigInteger.valueOf(s.set[0]).pow(t).multiply(BigInteger.valueOf(n - t + 1))) <= 0;
    }

    int lag(int n, int d) {
        List<Integer> list = latest(n, 2);
        if (list == null || d < 1 || d > 32 || d >= n) {
            return NONE;
        }
        int alike = 0;
        for (int i = d; i < n; i++) {
            alike += list.get(i).intValue() == list.get(i - d) ? 1 : 0;
        }
        return alike;
    }

    int echo(int n) {
        int best = NONE;
        for (int d = 1; d <= 32 && d < n && latest(n, 2) != null; d++) {
            if (best == NONE || lag(n, d) * (n - best) > lag(n, best) * (n - d)) {
                best = d;
            }
        }
        return best;
    }

    int compared(int what) {
        int[] all = new int[5];
        List<List<Integer>> full = new ArrayList<>();
        List<List<Integer>> rows = rows();
        int mostOfRow = limit(25);
        for (int r = 0; r < rows.size(); r++) {
            if (rows.get(r).size() == 15) {
                full.add(rows.get(r));
                all[1] = Math.max(all[1], more(rows.get(r)));
                all[3] |= more(rows.get(r)) > mostOfRow ? 1 << r : 0;
            }
        }
        all[0] = full.size();
        int mostOfColumn = full.size() > 1 ? limit(10 + full.size()) : 0;
        for (int j = 0; j < 15 && full.size() > 1; j++) {
            List<Integer> column = new ArrayList<>();
            for (List<Integer> row : full) {
                column.add(row.get(j));
            }
            all[2] = Math.max(all[2], more(column));
            all[4] |= more(column) > mostOfColumn ? 1 << j : 0;
        }
        return what < 0 || what > 4 ? NONE : all[what];
    }

    int longest(int n, boolean where) {
        List<Integer> list = latest(n, 1);
        if (list == null) {
            return NONE;
        }
        for (int length = n; length > 0; length--) {
            for (int i = 0; i + length <= n; i++) {
                if (more(list.subList(i, i + length)) == length) {
                    return where ? history().size() - n + i : length;
                }
            }
        }
        return NONE;
    }

    // ---- what would be

    int ahead(int n, int what) {
        if (n < 1 || n > 400 || what < 0 || what > 28) {
            return NONE;
        }
        State here = s;
        s = here.copy();
        draw(n);
        int answer = count(what);
        s = here;
        return answer;
    }

    int quiet() {
        if (s.mode == 3 || s.mode == 0) {
            return s.mode == 3 ? 0 : NONE;
        }
        State here = s;
        s = here.copy();
        int answer = NONE;
        for (int n = 1; n <= 400 && answer == NONE; n++) {
            draw(1);
            answer = s.mode == 3 ? n : NONE;
        }
        s = here;
        return answer;
    }

    private int replay(int chance, int log) {
        int alarms = 0;
        List<Integer> since = new ArrayList<>();
        for (int sample : history()) {
            since.add(sample);
            if (failures(since, chance, log) != 0) {
                alarms++;
                since.clear();
            }
        }
        return alarms;
    }

    int replayed(int c) {
        return c < 8 || c > 15 ? NONE : replay(c, s.set[1]);
    }

    int fit() {
        for (int c = 8; c <= 15; c++) {
            if (replay(c, s.set[1]) == 0) {
                return c;
            }
        }
        return NONE;
    }

    int keen() {
        for (int log = 1; log <= 40; log++) {
            if (replay(s.set[0], log) == 0) {
                return log;
            }
        }
        return NONE;
    }

    // ---- kept

    boolean image(int k) {
        if (k < 0 || k > 2) {
            return false;
        }
        images.put(k, s.copy());
        return true;
    }

    boolean again(int k) {
        if (!images.containsKey(k)) {
            return false;
        }
        s = images.get(k).copy();
        return true;
    }
}
