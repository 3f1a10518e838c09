import java.util.NoSuchElementException;
import java.util.Random;

/** Runs of calls by seeds, each answer compared with the plain model's; all promises at once. */
public final class RandomRunsTest {
    private static final String[] WORDS =
        {"chance", "log", "window", "start", "block", "out", "bias", "stick", "seed"};
    private static final int[] LOW = {8, 1, 4, 0, 2, 1, 0, 0, 0};
    private static final int[] HIGH = {15, 40, 15, 200, 64, 16, 16, 15, 9999};

    /** An object is used for at most 512 calls: room is left for a text of 300 bytes and all counts. */
    private static final int FEW_LEFT = 430;

    private final Random random;
    private final Check check;
    private final NoiseWatch x = new NoiseWatch();
    private final PlainModel m = new PlainModel();
    private int calls = 0;

    private RandomRunsTest(long seed, Check check) {
        random = new Random(seed);
        this.check = check;
        check.part("seed " + seed);
    }

    private void due(String what, long got, long want) {
        calls++;
        check.same(what, got, want);
    }

    private void due(String what, boolean got, boolean want) {
        due(what, got ? 1 : 0, want ? 1 : 0);
    }

    private int below(int n) {
        return random.nextInt(n);
    }

    private int from(int low, int high) {
        return low + random.nextInt(high - low + 1);
    }

    private String number(int low, int high) {
        int n = below(60) == 0 ? (below(2) == 0 ? low - 1 : high + 1) : below(6) == 0 ? low : from(low, high);
        return Integer.toString(Math.max(0, n));
    }

    private String blanks() {
        int n = below(3);
        return n == 1 ? " " : n == 2 ? "\n " : "";
    }

    private String script() {
        StringBuilder text = new StringBuilder();
        int many = below(9);
        for (int i = 0; i < many; i++) {
            int k = below(11);
            if (k > 8) {
                int first = from(0, 30);
                text.append("stuck ").append(first).append(' ').append(number(first, first + 40)).append(' ')
                    .append(number(0, 1));
            } else {
                boolean tight = below(3) > 0 && (k == 1 || k == 3);
                text.append(WORDS[k]).append(blanks()).append(number(LOW[k], tight ? 12 : HIGH[k]));
            }
            text.append(blanks()).append(';').append(blanks());
        }
        if (below(12) == 0 && text.length() > 0) {
            String odd = "Z;0a \t%\u00e9";
            text.insert(below(text.length()), odd.charAt(below(odd.length())));
        }
        if (below(12) == 0 && text.length() > 0) {
            String[] tokens = {" log ", " stuck ", " x ", " 9 ", " ; ", " 10000 "};
            text.insert(below(text.length()), tokens[below(tokens.length)]);
        }
        if (below(25) == 0) {
            text.append("start 12345;");
        }
        if (below(25) == 0) {
            text.append("end");
        }
        return text.toString();
    }

    private void tellScript() {
        String text = script();
        tellText(text);
        if (below(8) != 0) {
            readText(text);
        }
    }

    private void tellText(String text) {
        for (int at = 0; at < text.length(); at += 8) {
            long eight = Check.eight(text.substring(at, Math.min(text.length(), at + 8)));
            due("tell(" + eight + ")", x.tell(eight), m.tell(eight));
        }
    }

    private void readText(String text) {
        due("settings() of " + text, x.settings(), m.settings());
        due("fault()", x.fault(false), m.fault(false));
        due("fault(place)", x.fault(true), m.fault(true));
    }

    private static int limit(NoiseWatch x, int what) {
        try {
            return x.limit(what);
        } catch (NoSuchElementException none) {
            return -99;
        }
    }

    private static int limit(PlainModel m, int what) {
        try {
            return m.limit(what);
        } catch (NoSuchElementException none) {
            return -99;
        }
    }

    private void act() {
        int n;
        switch (below(14)) {
            case 0 -> due("stop()", x.stop(), m.stop());
            case 1, 2, 3 -> due("start()", x.start(), m.start());
            case 4, 5, 6 -> {
                n = from(1, 40);
                due("draw(" + n + ")", x.draw(n), m.draw(n));
            }
            case 7 -> {
                n = from(-1, 402);
                due("draw(" + n + ")", x.draw(n), m.draw(n));
            }
            case 8, 9, 10 -> {
                n = from(0, 33);
                int bits = random.nextInt();
                due("hand(" + bits + "," + n + ")", x.hand(bits, n), m.hand(bits, n));
            }
            case 11, 12 -> {
                n = from(0, 31);
                due("take(" + n + ")", x.take(n), m.take(n));
            }
            default -> {
                int k = from(-1, 3);
                if (below(2) == 0) {
                    due("image(" + k + ")", x.image(k), m.image(k));
                } else {
                    due("again(" + k + ")", x.again(k), m.again(k));
                }
            }
        }
    }

    private void askParts() {
        int k = from(-1, 402);
        int few = from(-2, 17);
        int i = from(-1, 15);
        boolean flag = below(2) == 0;
        switch (below(7)) {
            case 0 -> due("limit(" + few + ")", limit(x, few), limit(m, few));
            case 1 -> due("limit(" + (few + 10) + ")", limit(x, few + 10), limit(m, few + 10));
            case 2 -> due("odds(" + few % 3 + "," + flag + ")", x.odds(few % 3, flag), m.odds(few % 3, flag));
            case 3 -> due("history(" + k + ")", x.history(k), m.history(k));
            case 4 -> due("history(" + few + ")", x.history(few), m.history(few));
            case 5 -> due("pool(" + k % 260 + ")", x.pool(k % 260), m.pool(k % 260));
            default -> due("row(" + few + "," + i + "," + flag + ")", x.row(few, i, flag), m.row(few, i, flag));
        }
    }

    /** Mostly as many as there are or fewer, so that most questions have an answer. */
    private int latest() {
        int all = m.count(26);
        return below(6) == 0 ? from(-1, 402) : below(3) == 0 ? from(0, Math.min(all, 12) + 1) : from(0, all + 1);
    }

    private void askBounds() {
        int n = latest();
        int t = from(0, 9);
        int d = below(2) == 0 ? from(0, 34) : from(0, Math.max(1, n));
        int what = from(-1, 5);
        boolean flag = below(2) == 0;
        switch (below(9)) {
            case 0 -> due("bound(" + what + "," + n + "," + flag + ")", x.bound(what, n, flag), m.bound(what, n, flag));
            case 1 -> due("holds(" + n + ")", x.holds(n), m.holds(n));
            case 2 -> due("claim(" + n + ")", x.claim(n), m.claim(n));
            case 3 -> due("tuple(" + n + "," + t + ")", x.tuple(n, t), m.tuple(n, t));
            case 4 -> due("spreads(" + n + "," + t + ")", x.spreads(n, t), m.spreads(n, t));
            case 5 -> due("lag(" + n + "," + d + ")", x.lag(n, d), m.lag(n, d));
            case 6 -> due("echo(" + n + ")", x.echo(n), m.echo(n));
            case 7 -> due("compared(" + what + ")", x.compared(what), m.compared(what));
            default -> due("longest(" + n + "," + flag + ")", x.longest(n, flag), m.longest(n, flag));
        }
    }

    private void askAhead() {
        int n = below(3) == 0 ? from(-1, 402) : from(1, 60);
        int what = from(-1, 29);
        int c = from(7, 16);
        switch (below(6)) {
            case 0, 1 -> due("ahead(" + n + "," + what + ")", x.ahead(n, what), m.ahead(n, what));
            case 2 -> due("quiet()", x.quiet(), m.quiet());
            case 3 -> due("replayed(" + c + ")", x.replayed(c), m.replayed(c));
            case 4 -> due("fit()", x.fit(), m.fit());
            default -> due("keen()", x.keen(), m.keen());
        }
    }

    private void askCounts(int from, int to) {
        for (int what = from; what <= to; what++) {
            due("count(" + what + ")", x.count(what), m.count(what));
        }
    }

    /** As many of one value as REPEAT lets be, so that ROWS come near their limit and beyond it. */
    private int unevenRow() {
        int most = m.limit(0) - 1;
        int value = below(2);
        int alike = 0;
        int bits = 0;
        for (int i = 0; i < 15; i++) {
            boolean other = alike >= most || below(30) == 0;
            alike = other ? 0 : alike + 1;
            bits = bits << 1 | (other ? 1 - value : value);
        }
        return bits;
    }

    /** Restarts that are much alike: without them no ROW and no column would be ODD. */
    private void runOfRows() {
        String text = "chance " + from(8, 10) + ";log " + from(1, 7) + ";window " + from(4, 15) + ";start " + from(0, 4)
            + ";";
        tellText(text);
        readText(text);
        int bits = unevenRow();
        while (calls < FEW_LEFT && !check.failed()) {
            due("start()", x.start(), m.start());
            bits = below(6) == 0 ? unevenRow() : bits;
            int n = below(8) == 0 ? from(1, 15) : 15;
            due("hand(" + (bits >>> (15 - n)) + "," + n + ")", x.hand(bits >>> (15 - n), n), m.hand(bits >>> (15 - n), n));
            for (int what = 0; what <= 4; what++) {
                due("compared(" + what + ")", x.compared(what), m.compared(what));
            }
            askCounts(9, 11);
            if (below(6) == 0) {
                act();
            }
        }
        askCounts(-1, 29);
    }

    /** A watch that seldom is in ALARM, whose POOL fills up and is taken from. */
    private void runOfPool() {
        int block = from(2, 40);
        String text = "chance 8;log 40;start " + from(0, 2) + ";block " + block + ";out " + from(1, 16) + ";seed "
            + from(0, 9999) + ";";
        tellText(text);
        readText(text);
        due("start()", x.start(), m.start());
        while (calls < FEW_LEFT && !check.failed()) {
            int n = below(6) == 0 ? 400 : from(1, 3 * block);
            due("draw(" + n + ")", x.draw(n), m.draw(n));
            n = below(3) == 0 ? from(0, 31) : from(1, 8);
            due("take(" + n + ")", x.take(n), m.take(n));
            n = from(-1, 257);
            due("pool(" + n + ")", x.pool(n), m.pool(n));
            askCounts(20, 25);
            if (below(9) == 0) {
                act();
            }
        }
        askCounts(-1, 29);
    }

    private void run() {
        if (below(10) != 0) {
            tellScript();
        }
        while (calls < FEW_LEFT && !check.failed()) {
            int kind = below(100);
            if (kind < 2) {
                tellScript();
            } else if (kind < 42) {
                act();
                int what = from(-1, 25);
                askCounts(what, what + 4);
            } else if (kind < 58) {
                askParts();
            } else if (kind < 86) {
                askBounds();
            } else {
                askAhead();
            }
        }
        askCounts(-1, 29);
    }

    public static void main(String[] args) {
        Check check = new Check();
        int runs = args.length > 0 ? Integer.parseInt(args[0]) : 2000;
        for (int seed = 0; seed < runs && !check.failed(); seed++) {
            RandomRunsTest one = new RandomRunsTest(seed, check);
            switch (seed % 20) {
                case 8, 18 -> one.runOfRows();
                case 19 -> one.runOfPool();
                default -> one.run();
            }
        }
        check.end("RandomRunsTest");
    }
}
