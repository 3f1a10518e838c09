import java.util.Arrays;
import java.util.NoSuchElementException;

/** A watch over a source of noisy bits. The words in capitals are those of the document's terms. */
public final class NoiseWatch {
    public static final int NONE = -1;

    private static final int IMAGES = 3;
    private static final int MOST_HEARD = 400;
    private static final int MOST_DRAWN = 400;
    private static final int MOST_POOL = 256;
    private static final int MOST_TEXT = 300;
    private static final int MOST_ROWS = 15;
    private static final int MOST_TRIES = 15;
    private static final int MOST_STUCK = 4;
    private static final int MOST_LAG = 32;
    private static final int MOST_TUPLE = 8;
    private static final int MOST_COUNT = 28;

    private static final int OFF = 0;
    private static final int STARTS = 1;
    private static final int RUNS = 2;
    private static final int ALARM = 3;

    private static final int CHANCE = 0;
    private static final int LOG = 1;
    private static final int WINDOW = 2;
    private static final int START = 3;
    private static final int BLOCK = 4;
    private static final int OUT = 5;
    private static final int BIAS = 6;
    private static final int STICK = 7;
    private static final int SEED = 8;
    private static final int STUCK = 9;

    private static final int COMMON = 0;
    private static final int COLLISION = 1;
    private static final int FOLLOW = 2;

    private static final int[] FIRST = {10, 20, 15, 32, 16, 4, 8, 0, 1};
    private static final int[] LEAST = {8, 1, 4, 0, 2, 1, 0, 0, 0};
    private static final int[] MOST = {15, 40, 15, 200, 64, 16, 16, 15, 9999};

    private final Watch now = new Watch();
    private final Watch trial = new Watch();
    private final Watch[] kept = new Watch[IMAGES];
    private final Reader reader = new Reader();
    private final Bounds bounds = new Bounds();
    private final Odds odds = new Odds();
    private final Counts counts = new Counts();
    private final Counts peaks = new Counts();

    public NoiseWatch() {
    }

    public int tell(long eight) {
        return now.text.append(eight);
    }

    public int settings() {
        if (!reader.read(now.text)) {
            now.text.refuse(reader.fault, reader.place);
            return NONE;
        }
        now.settings.copyFrom(reader.draft);
        now.begin();
        return now.settings.stuckCount;
    }

    public int fault(boolean place) {
        return place ? now.text.place : now.text.fault;
    }

    // ---- acts

    public int start() {
        now.beginStart();
        return now.starts;
    }

    public boolean stop() {
        if (now.status == OFF) {
            return false;
        }
        now.turnOff();
        return true;
    }

    public int draw(int n) {
        return n < 1 || n > MOST_DRAWN ? NONE : now.drawMany(n);
    }

    public int hand(int bits, int n) {
        if (n < 1 || n > 32) {
            return NONE;
        }
        int heard = 0;
        for (int k = n - 1; k >= 0; k--) {
            if (now.hear((bits >>> k) & 1)) {
                heard++;
            }
        }
        return heard;
    }

    public int take(int n) {
        return n < 1 || n > 30 ? NONE : now.pool.takeBits(n);
    }

    // ---- what there is

    public int count(int what) {
        return now.countOf(what);
    }

    public int limit(int what) throws NoSuchElementException {
        if (what > 10 && what <= 10 + MOST_TRIES) {
            return rowsOf(what - 10);
        }
        switch (what) {
            case 0:
                return now.limits.repeats;
            case 1:
                return now.limits.proportion;
            case 2:
                return now.limits.changes;
            case 3:
                return now.settings.yielded();
            case 4:
                return now.settings.earned();
            default:
                throw new NoSuchElementException();
        }
    }

    public long odds(int what, boolean under) {
        int tries = now.settings.valueOf(WINDOW) - 1;
        if (what == 0) {
            odds.fill(tries, now.settings.valueOf(CHANCE));
            return odds.leastTerms(now.limits.proportion - 1, under);
        }
        if (what == 1) {
            odds.fill(tries, 8);
            return odds.leastTerms(now.limits.changes, under);
        }
        return NONE;
    }

    public int history(int k) {
        return now.heard.bitAt(k);
    }

    public int pool(int k) {
        return now.pool.bits.bitAt(k);
    }

    public int row(int row, int i, boolean many) {
        return many ? now.rows.lengthOf(row) : now.rows.sampleOf(row, i);
    }

    // ---- bounds

    public int bound(int what, int n, boolean under) {
        if (what < COMMON || what > FOLLOW || !loadLatest(n, 2)) {
            return NONE;
        }
        bounds.measure(what);
        return under ? bounds.below : bounds.above;
    }

    public int holds(int n) {
        if (!loadLatest(n, 2)) {
            return NONE;
        }
        int bits = 0;
        for (int what = COMMON; what <= FOLLOW; what++) {
            bounds.measure(what);
            if (bounds.holdsBy(what, now.settings.valueOf(CHANCE))) {
                bits |= 1 << what;
            }
        }
        return bits;
    }

    public int claim(int n) {
        if (!loadLatest(n, 2)) {
            return NONE;
        }
        return Math.max(leastChance(COMMON), leastChance(FOLLOW));
    }

    public int tuple(int n, int t) {
        return loadTuples(n, t) ? bounds.mostOften(t) : NONE;
    }

    public boolean spreads(int n, int t) {
        if (!loadTuples(n, t)) {
            return false;
        }
        long least = bounds.mostOften(t);
        long most = n - t + 1;
        for (int i = 0; i < t; i++) {
            least *= 16;
            most *= now.settings.valueOf(CHANCE);
        }
        return least <= most;
    }

    public int lag(int n, int d) {
        if (d < 1 || d > MOST_LAG || d >= n || !loadLatest(n, 2)) {
            return NONE;
        }
        return bounds.alikeAt(d);
    }

    public int echo(int n) {
        if (!loadLatest(n, 2)) {
            return NONE;
        }
        int best = 1;
        int bestAlike = bounds.alikeAt(1);
        for (int d = 2; d <= MOST_LAG && d < n; d++) {
            int alike = bounds.alikeAt(d);
            if (alike * (n - best) > bestAlike * (n - d)) {
                best = d;
                bestAlike = alike;
            }
        }
        return best;
    }

    public int compared(int what) {
        switch (what) {
            case 0:
                return now.rows.full();
            case 1:
                return now.rows.greatestRow();
            case 2:
                return now.rows.greatestColumn();
            case 3:
                return now.rows.rowsAbove(rowsOf(MOST_ROWS));
            case 4:
                return now.rows.columnsAbove(rowsOf(now.rows.full()));
            default:
                return NONE;
        }
    }

    public int longest(int n, boolean where) {
        if (!loadLatest(n, 1)) {
            return NONE;
        }
        bounds.measureLongest();
        return where ? now.heard.size - n + bounds.below : bounds.above;
    }

    // ---- what would be

    public int ahead(int n, int what) {
        if (n < 1 || n > MOST_DRAWN || what < 0 || what > MOST_COUNT) {
            return NONE;
        }
        trial.copyFrom(now);
        trial.drawMany(n);
        return trial.countOf(what);
    }

    public int quiet() {
        if (now.status == ALARM) {
            return 0;
        }
        if (now.status == OFF) {
            return NONE;
        }
        trial.copyFrom(now);
        for (int n = 1; n <= MOST_DRAWN; n++) {
            trial.drawMany(1);
            if (trial.status == ALARM) {
                return n;
            }
        }
        return NONE;
    }

    public int replayed(int c) {
        if (c < LEAST[CHANCE] || c > MOST[CHANCE]) {
            return NONE;
        }
        int window = now.settings.valueOf(WINDOW);
        odds.setLimits(c, now.settings.valueOf(LOG), window);
        counts.clear();
        int alarms = 0;
        for (int k = 0; k < now.heard.size; k++) {
            counts.hear(now.heard.bitAt(k), window);
            if (odds.failures(counts) != 0) {
                alarms++;
                counts.clear();
            }
        }
        return alarms;
    }

    public int fit() {
        measurePeaks();
        for (int c = LEAST[CHANCE]; c <= MOST[CHANCE]; c++) {
            if (peaksPass(c, now.settings.valueOf(LOG))) {
                return c;
            }
        }
        return NONE;
    }

    public int keen() {
        measurePeaks();
        for (int log = LEAST[LOG]; log <= MOST[LOG]; log++) {
            if (peaksPass(now.settings.valueOf(CHANCE), log)) {
                return log;
            }
        }
        return NONE;
    }

    // ---- kept

    public boolean image(int k) {
        if (k < 0 || k >= IMAGES) {
            return false;
        }
        if (kept[k] == null) {
            kept[k] = new Watch();
        }
        kept[k].copyFrom(now);
        return true;
    }

    public boolean again(int k) {
        if (k < 0 || k >= IMAGES || kept[k] == null) {
            return false;
        }
        now.copyFrom(kept[k]);
        return true;
    }

    private int rowsOf(int n) {
        odds.fill(n, now.settings.valueOf(CHANCE));
        return odds.leastBy(now.settings.valueOf(LOG));
    }

    /** Brings the latest n SAMPLES to be measured; false, if there are not so many. */
    private boolean loadLatest(int n, int least) {
        if (n < least || n > now.heard.size) {
            return false;
        }
        bounds.load(now.heard, n);
        return true;
    }

    private boolean loadTuples(int n, int t) {
        return t >= 1 && t <= MOST_TUPLE && t <= n && loadLatest(n, 1);
    }

    private int leastChance(int what) {
        bounds.measure(what);
        for (int c = 8; c < 16; c++) {
            if (bounds.holdsBy(what, c)) {
                return c;
            }
        }
        return 16;
    }

    /** As long as no TEST fails, the greatest counts tell for every limit at once whether one would. */
    private void measurePeaks() {
        counts.clear();
        peaks.clear();
        for (int k = 0; k < now.heard.size; k++) {
            counts.hear(now.heard.bitAt(k), now.settings.valueOf(WINDOW));
            peaks.raiseTo(counts);
        }
    }

    private boolean peaksPass(int chance, int log) {
        odds.setLimits(chance, log, now.settings.valueOf(WINDOW));
        return odds.failures(peaks) == 0;
    }

    /** Bits one behind the other; places wrap by a mask, so that none lies outside of the row. */
    private static final class Queue {
        private static final int MASK = 511;

        private final int[] bits = new int[MASK + 1];
        private int head = 0;
        private int size = 0;

        void clear() {
            head = 0;
            size = 0;
        }

        int bitAt(int k) {
            return k < 0 || k >= size ? NONE : bits[(head + k) & MASK];
        }

        void append(int bit) {
            if (size <= MASK) {
                bits[(head + size) & MASK] = bit;
                size++;
            }
        }

        int dropFirst() {
            if (size <= 0) {
                return 0;
            }
            int bit = bits[head & MASK];
            head = (head + 1) & MASK;
            size--;
            return bit;
        }

        void copyFrom(Queue other) {
            System.arraycopy(other.bits, 0, bits, 0, MASK + 1);
            head = other.head;
            size = other.size;
        }
    }

    private static final class Settings {
        private final int[] values = FIRST.clone();
        private final int[] stuckFrom = new int[MOST_STUCK];
        private final int[] stuckTo = new int[MOST_STUCK];
        private final int[] stuckValue = new int[MOST_STUCK];
        private int stuckCount = 0;

        void setFirst() {
            System.arraycopy(FIRST, 0, values, 0, Math.min(FIRST.length, values.length));
            stuckCount = 0;
        }

        int valueOf(int what) {
            return what < 0 || what >= values.length ? 0 : values[what];
        }

        void setValue(int what, int value) {
            if (what >= 0 && what < values.length) {
                values[what] = value;
            }
        }

        void addStuck(int from, int to, int value) {
            if (stuckCount >= 0 && stuckCount < MOST_STUCK) {
                stuckFrom[stuckCount] = from;
                stuckTo[stuckCount] = to;
                stuckValue[stuckCount] = value;
                stuckCount++;
            }
        }

        /** What the SAMPLE of this number is, if it is not STUCK the one that it would be. */
        int stuckAt(int number, int sample) {
            for (int k = Math.min(stuckCount, MOST_STUCK) - 1; k >= 0; k--) {
                if (number >= stuckFrom[k] && number <= stuckTo[k]) {
                    return stuckValue[k];
                }
            }
            return sample;
        }

        int earned() {
            return 9 * (16 - valueOf(CHANCE));
        }

        int yielded() {
            return Math.min(valueOf(OUT), valueOf(BLOCK) * earned() / 100);
        }

        void copyFrom(Settings other) {
            System.arraycopy(other.values, 0, values, 0, Math.min(other.values.length, values.length));
            System.arraycopy(other.stuckFrom, 0, stuckFrom, 0, MOST_STUCK);
            System.arraycopy(other.stuckTo, 0, stuckTo, 0, MOST_STUCK);
            System.arraycopy(other.stuckValue, 0, stuckValue, 0, MOST_STUCK);
            stuckCount = other.stuckCount;
        }
    }

    /** Exact odds of so many or more of some tries (all over 16 to the tries), and the limits by them. */
    private static final class Odds {
        private final long[] tails = new long[MOST_TRIES + 2];
        private int tries = 0;
        private int repeats = 0;
        private int proportion = 0;
        private int changes = 0;

        void fill(int n, int chance) {
            tries = Math.max(0, Math.min(n, MOST_TRIES));
            Arrays.fill(tails, 0L);
            tails[0] = 1;
            for (int i = 0; i < tries && i < MOST_TRIES; i++) {
                for (int k = i; k >= 0; k--) {
                    tails[k + 1] += tails[k] * chance;
                    tails[k] *= 16 - chance;
                }
            }
            for (int k = Math.min(tries, MOST_TRIES) - 1; k >= 0; k--) {
                tails[k] += tails[k + 1];
            }
        }

        /** The least c from 1 on whose odds, times 2 to the log, are no more than 1; one beyond all, if none. */
        int leastBy(int log) {
            // Both sides times 16 to the tries: the odds must fit under a power of 2, if that is none of a half.
            int power = 4 * tries - log;
            int least = tries + 1;
            if (power < 0) {
                return least;
            }
            long most = 1L << power;
            for (int c = Math.min(tries, MOST_TRIES); c >= 1 && tails[c] <= most; c--) {
                least = c;
            }
            return least;
        }

        long leastTerms(int c, boolean under) {
            long upper = c < 0 || c > tries || c >= tails.length ? 0 : tails[c];
            if (upper == 0) {
                return under ? 1 : 0;
            }
            long lower = 1L << (4 * tries);
            for (int i = 0; i < 60 && (upper & 1) == 0 && (lower & 1) == 0; i++) {
                upper >>= 1;
                lower >>= 1;
            }
            return under ? lower : upper;
        }

        void setLimits(int chance, int log, int window) {
            repeats = leastRepeats(chance, log);
            fill(window - 1, chance);
            proportion = leastBy(log) + 1;
            fill(window - 1, 8);
            changes = leastBy(log);
        }

        private static int leastRepeats(int chance, int log) {
            long power = 1;
            for (int c = 2; c < 16; c++) {
                power *= chance;
                int spare = 4 * (c - 1) - log;
                if (spare >= 0 && power <= 1L << spare) {
                    return c;
                }
            }
            return 16;
        }

        int failures(Counts counts) {
            int bits = counts.alike >= repeats ? 1 : 0;
            if (counts.like >= proportion) {
                bits |= 2;
            }
            if (counts.unlike >= changes) {
                bits |= 4;
            }
            return bits;
        }
    }

    /** What the TESTS count since it STARTS; a full WINDOW stays to be seen till the next SAMPLE. */
    private static final class Counts {
        private int alike = 0;
        private int last = 0;
        private int inWindow = 0;
        private int first = 0;
        private int like = 0;
        private int unlike = 0;

        void clear() {
            alike = 0;
            last = 0;
            inWindow = 0;
            first = 0;
            like = 0;
            unlike = 0;
        }

        void hear(int sample, int window) {
            if (inWindow >= window) {
                inWindow = 0;
                like = 0;
                unlike = 0;
            }
            if (inWindow == 0) {
                first = sample;
            } else if (sample != last) {
                unlike++;
            }
            if (sample == first) {
                like++;
            }
            alike = alike > 0 && sample == last ? alike + 1 : 1;
            last = sample;
            inWindow++;
        }

        void raiseTo(Counts other) {
            alike = Math.max(alike, other.alike);
            like = Math.max(like, other.like);
            unlike = Math.max(unlike, other.unlike);
        }

        void copyFrom(Counts other) {
            alike = other.alike;
            last = other.last;
            inWindow = other.inWindow;
            first = other.first;
            like = other.like;
            unlike = other.unlike;
        }
    }

    private static final class Source {
        private int x = 0;
        private int drawn = 0;
        private int last = 0;

        void begin(int seed) {
            x = seed;
            drawn = 0;
            last = 0;
        }

        int next(Settings settings) {
            int sample = last;
            if (belowSixteen() >= settings.valueOf(STICK)) {
                sample = belowSixteen() < settings.valueOf(BIAS) ? 1 : 0;
            }
            last = settings.stuckAt(drawn, sample);
            drawn++;
            return last;
        }

        private int belowSixteen() {
            x = x * 1103515245 + 12345;
            return (x >>> 16) % 16;
        }

        void copyFrom(Source other) {
            x = other.x;
            drawn = other.drawn;
            last = other.last;
        }
    }

    /** The POOL, and the BLOCK that fills it. */
    private static final class Pool {
        private final Queue bits = new Queue();
        private int register = 0;
        private int inBlock = 0;
        private int came = 0;
        private int wasted = 0;
        private int taken = 0;
        private int gone = 0;

        void begin() {
            bits.clear();
            register = 0;
            inBlock = 0;
            came = 0;
            wasted = 0;
            taken = 0;
            gone = 0;
        }

        void feed(int sample, Settings settings) {
            int top = (register >>> 15) & 1;
            register = (register << 1) & 65535;
            if (top != sample) {
                register ^= 4129;
            }
            inBlock++;
            if (inBlock >= settings.valueOf(BLOCK)) {
                fillFrom(settings.yielded());
                register = 0;
                inBlock = 0;
            }
        }

        private void fillFrom(int lowest) {
            for (int k = lowest - 1; k >= 0; k--) {
                if (bits.size < MOST_POOL) {
                    bits.append((register >>> k) & 1);
                    came++;
                } else {
                    wasted++;
                }
            }
        }

        int takeBits(int n) {
            if (n > bits.size) {
                return NONE;
            }
            int number = 0;
            for (int i = 0; i < n; i++) {
                number = number << 1 | bits.dropFirst();
            }
            taken += n;
            return number;
        }

        void lose() {
            gone += bits.size;
            bits.clear();
            register = 0;
            inBlock = 0;
        }

        void copyFrom(Pool other) {
            bits.copyFrom(other.bits);
            register = other.register;
            inBlock = other.inBlock;
            came = other.came;
            wasted = other.wasted;
            taken = other.taken;
            gone = other.gone;
        }
    }

    /** ROWS, the oldest first; the SAMPLES of one are bits of a number, the first one lowest. */
    private static final class Rows {
        private final int[] samples = new int[MOST_ROWS];
        private final int[] lengths = new int[MOST_ROWS];
        private int size = 0;

        void clear() {
            size = 0;
        }

        void open() {
            if (size >= MOST_ROWS) {
                System.arraycopy(samples, 1, samples, 0, MOST_ROWS - 1);
                System.arraycopy(lengths, 1, lengths, 0, MOST_ROWS - 1);
                size = MOST_ROWS - 1;
            }
            if (size >= 0) {
                samples[size] = 0;
                lengths[size] = 0;
                size++;
            }
        }

        void append(int sample) {
            int row = size - 1;
            if (row >= 0 && row < MOST_ROWS && lengths[row] < MOST_ROWS) {
                samples[row] |= sample << lengths[row];
                lengths[row]++;
            }
        }

        private boolean has(int row) {
            return row >= 0 && row < size && row < MOST_ROWS;
        }

        int lengthOf(int row) {
            return has(row) ? lengths[row] : NONE;
        }

        int sampleOf(int row, int i) {
            return has(row) && i >= 0 && i < lengths[row] ? (samples[row] >>> i) & 1 : NONE;
        }

        private boolean isFull(int row) {
            return lengthOf(row) == MOST_ROWS;
        }

        int full() {
            int rows = 0;
            for (int row = 0; row < MOST_ROWS; row++) {
                if (isFull(row)) {
                    rows++;
                }
            }
            return rows;
        }

        /** How many SAMPLES of the ROW are of the value that is more; 0, if it is not full. */
        private int moreOfRow(int row) {
            if (!has(row) || !isFull(row)) {
                return 0;
            }
            int ones = Integer.bitCount(samples[row]);
            return Math.max(ones, MOST_ROWS - ones);
        }

        /** The same of a column of the full ROWS; 0, if there are fewer than 2. */
        private int moreOfColumn(int column) {
            int ones = 0;
            int rows = 0;
            for (int row = 0; row < MOST_ROWS; row++) {
                if (isFull(row)) {
                    rows++;
                    ones += sampleOf(row, column);
                }
            }
            return rows < 2 ? 0 : Math.max(ones, rows - ones);
        }

        int greatestRow() {
            int most = 0;
            for (int row = 0; row < MOST_ROWS; row++) {
                most = Math.max(most, moreOfRow(row));
            }
            return most;
        }

        int greatestColumn() {
            int most = 0;
            for (int column = 0; column < MOST_ROWS; column++) {
                most = Math.max(most, moreOfColumn(column));
            }
            return most;
        }

        int rowsAbove(int limit) {
            int bits = 0;
            for (int row = 0; row < MOST_ROWS; row++) {
                if (moreOfRow(row) > limit) {
                    bits |= 1 << row;
                }
            }
            return bits;
        }

        int columnsAbove(int limit) {
            int bits = 0;
            for (int column = 0; column < MOST_ROWS; column++) {
                if (moreOfColumn(column) > limit) {
                    bits |= 1 << column;
                }
            }
            return bits;
        }

        void copyFrom(Rows other) {
            System.arraycopy(other.samples, 0, samples, 0, MOST_ROWS);
            System.arraycopy(other.lengths, 0, lengths, 0, MOST_ROWS);
            size = other.size;
        }
    }

    /** THE TEXT, and the FAULT of the latest one that was read. */
    private static final class Text {
        private final int[] bytes = new int[MOST_TEXT];
        private int size = 0;
        private int fault = 0;
        private int place = NONE;

        void begin() {
            refuse(0, NONE);
        }

        void refuse(int newFault, int newPlace) {
            size = 0;
            fault = newFault;
            place = newPlace;
        }

        int append(long eight) {
            int more = 0;
            while (more < 8 && byteOf(eight, more) != 0) {
                more++;
            }
            if (size < 0 || size + more > MOST_TEXT) {
                return NONE;
            }
            for (int i = 0; i < more; i++) {
                bytes[size + i] = byteOf(eight, i);
            }
            size += more;
            return size;
        }

        private static int byteOf(long eight, int i) {
            return (int) (eight >>> (56 - 8 * i)) & 255;
        }

        int byteAt(int i) {
            return i < 0 || i >= size || i >= MOST_TEXT ? NONE : bytes[i];
        }

        boolean hasWord(int from, int to, String word) {
            if (to - from != word.length()) {
                return false;
            }
            for (int i = 0; i < word.length(); i++) {
                if (byteAt(from + i) != word.charAt(i)) {
                    return false;
                }
            }
            return true;
        }

        void copyFrom(Text other) {
            System.arraycopy(other.bytes, 0, bytes, 0, MOST_TEXT);
            size = other.size;
            fault = other.fault;
            place = other.place;
        }
    }

    /** All that there is at a time, and all that an image keeps. */
    private static final class Watch {
        private final Settings settings = new Settings();
        private final Odds limits = new Odds();
        private final Source source = new Source();
        private final Counts counts = new Counts();
        private final Pool pool = new Pool();
        private final Queue heard = new Queue();
        private final Rows rows = new Rows();
        private final Text text = new Text();
        private int status = OFF;
        private int failed = 0;
        private int alarms = 0;
        private int starts = 0;
        private int listened = 0;
        private int since = 0;

        Watch() {
            begin();
        }

        /** All is as at first, but for the SETTINGS. */
        void begin() {
            limits.setLimits(settings.valueOf(CHANCE), settings.valueOf(LOG), settings.valueOf(WINDOW));
            source.begin(settings.valueOf(SEED));
            counts.clear();
            pool.begin();
            heard.clear();
            rows.clear();
            text.begin();
            status = OFF;
            failed = 0;
            alarms = 0;
            starts = 0;
            listened = 0;
            since = 0;
        }

        void beginStart() {
            pool.lose();
            counts.clear();
            rows.open();
            since = 0;
            starts++;
            status = settings.valueOf(START) == 0 ? RUNS : STARTS;
        }

        void turnOff() {
            pool.lose();
            counts.clear();
            status = OFF;
        }

        int drawMany(int n) {
            int listenedTo = 0;
            for (int i = 0; i < n; i++) {
                if (hear(source.next(settings))) {
                    listenedTo++;
                }
            }
            return listenedTo;
        }

        /** Whether it listened to the SAMPLE. */
        boolean hear(int sample) {
            if (status == OFF || status == ALARM) {
                return false;
            }
            listened++;
            since++;
            if (heard.size >= MOST_HEARD) {
                heard.dropFirst();
            }
            heard.append(sample);
            rows.append(sample);
            counts.hear(sample, settings.valueOf(WINDOW));
            int failures = limits.failures(counts);
            if (failures != 0) {
                raiseAlarm(failures);
            } else if (status == RUNS) {
                pool.feed(sample, settings);
            } else if (since >= settings.valueOf(START)) {
                status = RUNS;
            }
            return true;
        }

        private void raiseAlarm(int failures) {
            failed = failures;
            alarms++;
            status = ALARM;
            pool.lose();
        }

        int countOf(int what) {
            if (what >= CHANCE && what <= STICK) {
                return settings.valueOf(what);
            }
            if (what >= 16) {
                return countOfParts(what);
            }
            switch (what) {
                case 8:
                    return settings.stuckCount;
                case 9:
                    return status;
                case 10:
                    return failed;
                case 11:
                    return alarms;
                case 12:
                    return starts;
                case 13:
                    return source.drawn;
                case 14:
                    return listened;
                case 15:
                    return since;
                default:
                    return NONE;
            }
        }

        private int countOfParts(int what) {
            switch (what) {
                case 16:
                    return counts.alike;
                case 17:
                    return counts.inWindow;
                case 18:
                    return counts.like;
                case 19:
                    return counts.unlike;
                case 20:
                    return pool.inBlock;
                case 21:
                    return pool.bits.size;
                case 22:
                    return pool.came;
                case 23:
                    return pool.wasted;
                case 24:
                    return pool.taken;
                case 25:
                    return pool.gone;
                case 26:
                    return heard.size;
                case 27:
                    return rows.size;
                case MOST_COUNT:
                    return text.size;
                default:
                    return NONE;
            }
        }

        void copyFrom(Watch other) {
            settings.copyFrom(other.settings);
            limits.repeats = other.limits.repeats;
            limits.proportion = other.limits.proportion;
            limits.changes = other.limits.changes;
            source.copyFrom(other.source);
            counts.copyFrom(other.counts);
            pool.copyFrom(other.pool);
            heard.copyFrom(other.heard);
            rows.copyFrom(other.rows);
            text.copyFrom(other.text);
            status = other.status;
            failed = other.failed;
            alarms = other.alarms;
            starts = other.starts;
            listened = other.listened;
            since = other.since;
        }
    }

    /** Reads THE TEXT as SETTINGS into a draft, and finds its FAULT. */
    private static final class Reader {
        private static final int END = 0;
        private static final int WORD = 1;
        private static final int NUMBER = 2;
        private static final int SIGN = 3;
        private static final int OTHER = 4;

        private final Settings draft = new Settings();
        private final int[] numbers = new int[3];
        private int at = 0;
        private int kind = END;
        private int from = 0;
        private int number = 0;
        private int fault = 0;
        private int place = NONE;

        /** Whether there is no FAULT. */
        boolean read(Text text) {
            draft.setFirst();
            at = 0;
            fault = 0;
            place = NONE;
            nextToken(text);
            for (int i = 0; i < MOST_TEXT && kind != END; i++) {
                if (!readSetting(text)) {
                    // What can not stand there goes ahead of what was noted of numbers, wherever that was.
                    fault = 1;
                    place = from;
                    return false;
                }
                nextToken(text);
            }
            return fault == 0;
        }

        /** False, if the token at hand can not stand there. */
        private boolean readSetting(Text text) {
            int what = kind == WORD ? settingOf(text) : NONE;
            if (what == NONE) {
                return false;
            }
            if (what == STUCK && draft.stuckCount >= MOST_STUCK) {
                note(3);
            }
            int many = what == STUCK ? numbers.length : 1;
            for (int i = 0; i < many; i++) {
                nextToken(text);
                if (kind != NUMBER) {
                    return false;
                }
                if (!canBe(what, i)) {
                    note(2);
                }
                numbers[i] = number;
            }
            putNumbers(what);
            nextToken(text);
            return kind == SIGN;
        }

        /** Whether the number at hand can be the i-th one of the setting. */
        private boolean canBe(int what, int i) {
            if (what >= 0 && what < LEAST.length && what < MOST.length) {
                return number >= LEAST[what] && number <= MOST[what];
            }
            if (i == 1) {
                return number >= numbers[0];
            }
            return i == 0 || number <= 1;
        }

        private void putNumbers(int what) {
            if (what == STUCK) {
                draft.addStuck(numbers[0], numbers[1], numbers[2]);
            } else {
                draft.setValue(what, numbers[0]);
            }
        }

        /** Tokens come by place, so that the first one noted is the first by place. */
        private void note(int newFault) {
            if (fault == 0) {
                fault = newFault;
                place = from;
            }
        }

        private void nextToken(Text text) {
            while (at < text.size && isBlank(text.byteAt(at))) {
                at++;
            }
            from = at;
            int sign = text.byteAt(at);
            if (sign == NONE) {
                kind = END;
            } else if (isLetter(sign)) {
                passWord(text);
            } else if (isDigit(sign)) {
                passNumber(text);
            } else if (sign == ';') {
                at++;
                kind = SIGN;
            } else {
                kind = OTHER;
            }
        }

        private void passWord(Text text) {
            while (at < text.size && isLetter(text.byteAt(at))) {
                at++;
            }
            kind = WORD;
        }

        private void passNumber(Text text) {
            number = 0;
            while (at < text.size && isDigit(text.byteAt(at))) {
                if (at - from < 4) {
                    number = number * 10 + text.byteAt(at) - '0';
                }
                at++;
            }
            kind = at - from <= 4 ? NUMBER : OTHER;
        }

        private int settingOf(Text text) {
            for (int what = CHANCE; what <= STUCK; what++) {
                if (text.hasWord(from, at, wordOf(what))) {
                    return what;
                }
            }
            return NONE;
        }

        private static String wordOf(int what) {
            switch (what) {
                case CHANCE:
                    return "chance";
                case LOG:
                    return "log";
                case WINDOW:
                    return "window";
                case START:
                    return "start";
                case BLOCK:
                    return "block";
                case OUT:
                    return "out";
                case BIAS:
                    return "bias";
                case STICK:
                    return "stick";
                case SEED:
                    return "seed";
                default:
                    return "stuck";
            }
        }

        private static boolean isBlank(int sign) {
            return sign == 32 || sign == 10;
        }

        private static boolean isLetter(int sign) {
            return sign >= 'a' && sign <= 'z';
        }

        private static boolean isDigit(int sign) {
            return sign >= '0' && sign <= '9';
        }
    }

    /** What is measured of the latest SAMPLES, which lie in a plain row, as they are read over and over. */
    private static final class Bounds {
        private static final int KINDS = 256;

        private final int[] latest = new int[MOST_HEARD];
        private final int[] seen = new int[KINDS];
        private int size = 0;
        private int above = 0;
        private int below = 0;

        void load(Queue heard, int n) {
            size = Math.max(0, Math.min(n, MOST_HEARD));
            int first = heard.size - size;
            for (int k = 0; k < size && k < MOST_HEARD; k++) {
                latest[k] = heard.bitAt(first + k);
            }
        }

        void measure(int what) {
            if (what == COMMON) {
                measureCommon();
            } else if (what == COLLISION) {
                measureCollision();
            } else {
                measureFollow();
            }
        }

        private void measureCommon() {
            int ones = 0;
            for (int k = 0; k < size && k < MOST_HEARD; k++) {
                ones += latest[k];
            }
            above = Math.max(ones, size - ones);
            below = size;
        }

        private void measureCollision() {
            above = 0;
            below = 0;
            int k = 0;
            while (k + 1 < size && k + 1 < MOST_HEARD) {
                int step = latest[k] == latest[k + 1] ? 2 : 3;
                k += step;
                if (k <= size) {
                    above += step;
                    below++;
                }
            }
        }

        private void measureFollow() {
            int ones = 0;
            int onesByOne = 0;
            int zerosByOne = 0;
            for (int k = 0; k + 1 < size && k + 1 < MOST_HEARD; k++) {
                if (latest[k] == 1) {
                    ones++;
                    onesByOne += latest[k + 1];
                } else {
                    zerosByOne += latest[k + 1];
                }
            }
            int zeros = size - 1 - ones;
            int bestOfOnes = Math.max(onesByOne, ones - onesByOne);
            above = Math.max(zerosByOne, zeros - zerosByOne);
            below = zeros;
            if (zeros == 0 || bestOfOnes * zeros > above * ones) {
                above = bestOfOnes;
                below = ones;
            }
        }

        boolean holdsBy(int what, int chance) {
            if (what == COLLISION) {
                return 256 * above >= below * (512 + 2 * chance * (16 - chance));
            }
            return below * chance >= 16 * above;
        }

        int mostOften(int t) {
            Arrays.fill(seen, 0);
            int mask = ((1 << t) - 1) & (KINDS - 1);
            int kind = 0;
            int most = 0;
            for (int k = 0; k < size && k < MOST_HEARD; k++) {
                kind = (kind << 1 | latest[k]) & mask;
                if (k >= t - 1) {
                    seen[kind]++;
                    most = Math.max(most, seen[kind]);
                }
            }
            return most;
        }

        int alikeAt(int d) {
            if (d < 1) {
                return 0;
            }
            int alike = 0;
            for (int k = d; k < size && k < MOST_HEARD; k++) {
                if (latest[k] == latest[k - d]) {
                    alike++;
                }
            }
            return alike;
        }

        /** Above: how long the longest row of like SAMPLES is; below: where the first such begins. */
        void measureLongest() {
            above = 0;
            below = 0;
            int begin = 0;
            for (int k = 0; k < size && k < MOST_HEARD; k++) {
                if (latest[k] != latest[begin]) {
                    begin = k;
                }
                if (k - begin + 1 > above) {
                    above = k - begin + 1;
                    below = begin;
                }
            }
        }
    }
}
