import java.math.BigInteger;
import java.util.NoSuchElementException;

/** The edges of LIMITS, EARNED and YIELD (Terms 1), of limit() and odds() (promises 11, 12). */
public final class LimitsEdgesTest {
    private static final Check CHECK = new Check();

    private static void same(String what, long got, long want) {
        CHECK.same(what, got, want);
    }

    private static NoiseWatch by(int chance, int log, int window) {
        return Check.with("chance " + chance + ";log " + log + ";window " + window + ";");
    }

    private static void limit(int chance, int log, int window, int what, int want) {
        same("limit(" + what + ") by " + chance + ", " + log + ", " + window, by(chance, log, window).limit(what), want);
    }

    private static void repeats() {
        CHECK.part("REPEATS: the least c from 2 on .. no more than 16 to the c - 1; 16, if there is none below 16");
        limit(8, 1, 15, 0, 2);
        limit(9, 1, 15, 0, 3);
        limit(8, 2, 15, 0, 3);
        limit(8, 13, 15, 0, 14);
        limit(8, 14, 15, 0, 15);
        limit(8, 15, 15, 0, 16);
        limit(8, 16, 15, 0, 16);
        limit(8, 40, 15, 0, 16);
        limit(15, 1, 15, 0, 12);
        limit(15, 2, 15, 0, 16);
        limit(12, 5, 15, 0, 14);
        limit(12, 6, 15, 0, 16);
        limit(15, 40, 15, 0, 16);
        limit(8, 14, 4, 0, 15);
    }

    private static void proportion() {
        CHECK.part("PROPORTION: the least c from 2 on, up to WINDOW .. no more than 1; WINDOW and 1, if there is none");
        limit(8, 1, 4, 1, 3);
        limit(9, 1, 4, 1, 4);
        limit(8, 2, 4, 1, 4);
        limit(8, 3, 4, 1, 4);
        limit(8, 4, 4, 1, 5);
        limit(8, 40, 4, 1, 5);
        limit(8, 14, 15, 1, 15);
        limit(8, 15, 15, 1, 16);
        limit(15, 1, 15, 1, 15);
        limit(15, 2, 15, 1, 16);
        limit(12, 1, 4, 1, 4);
        limit(13, 1, 4, 1, 5);
        limit(8, 1, 15, 1, 9);
        limit(8, 4, 5, 1, 5);
        limit(8, 5, 5, 1, 6);
    }

    private static void changes() {
        CHECK.part("CHANGES: the least c up to WINDOW - 1 .. no more than 1; WINDOW, if there is none");
        limit(8, 1, 4, 2, 2);
        limit(15, 1, 4, 2, 2);
        limit(8, 2, 4, 2, 3);
        limit(8, 3, 4, 2, 3);
        limit(8, 4, 4, 2, 4);
        limit(8, 40, 4, 2, 4);
        limit(8, 14, 15, 2, 14);
        limit(15, 14, 15, 2, 14);
        limit(8, 15, 15, 2, 15);
        limit(8, 1, 15, 2, 8);
    }

    private static void rows() {
        CHECK.part("ROWS of n: the least c from 1 on, up to n .. no more than 1; n and 1, if there is none");
        limit(8, 1, 4, 11, 1);
        limit(9, 1, 4, 11, 2);
        limit(8, 2, 4, 11, 2);
        limit(8, 2, 4, 12, 2);
        limit(8, 3, 4, 12, 3);
        limit(8, 15, 4, 25, 15);
        limit(8, 16, 4, 25, 16);
        limit(8, 14, 4, 24, 14);
        limit(8, 15, 4, 24, 15);
        limit(8, 40, 15, 25, 16);
        limit(15, 1, 15, 25, 15);
        limit(15, 2, 15, 25, 16);
    }

    private static void yields(int chance, int block, int out, int want) {
        NoiseWatch x = Check.with("chance " + chance + ";block " + block + ";out " + out + ";");
        same("YIELD by " + chance + ", " + block + ", " + out, x.limit(3), want);
    }

    private static void earned() {
        CHECK.part("EARNED by a SAMPLE: 9 times what CHANCE is less than 16. YIELD: .. whole bits .., OUT at most");
        for (int chance = 8; chance <= 15; chance++) {
            limit(chance, 20, 15, 4, 144 - 9 * chance);
        }
        yields(15, 11, 16, 0);
        yields(15, 12, 16, 1);
        yields(15, 22, 16, 1);
        yields(15, 23, 16, 2);
        yields(12, 24, 16, 8);
        yields(12, 25, 16, 9);
        yields(11, 19, 16, 8);
        yields(11, 20, 16, 9);
        yields(14, 49, 16, 8);
        yields(14, 50, 16, 9);
        yields(8, 2, 16, 1);
        yields(8, 22, 16, 15);
        yields(8, 23, 16, 16);
        yields(8, 64, 16, 16);
        yields(8, 64, 15, 15);
        yields(8, 64, 1, 1);
        yields(8, 10, 6, 6);
        yields(8, 10, 7, 7);
        yields(8, 10, 8, 7);
        yields(15, 2, 1, 0);
        yields(15, 64, 16, 5);
    }

    private static long refused(NoiseWatch x, int what) {
        try {
            return x.limit(what);
        } catch (NoSuchElementException none) {
            return -99;
        }
    }

    private static void anotherWhat() {
        CHECK.part("NoSuchElementException: another what. 10 + n: ROWS of n, 1 to 15");
        for (int what : new int[] {-1, 5, 6, 9, 10, 26, 27, 100, Integer.MIN_VALUE, Integer.MAX_VALUE}) {
            States.refused(CHECK, "limit(" + what + ")", x -> refused(x, what), -99);
        }
        for (int what : new int[] {0, 1, 2, 3, 4, 11, 12, 24, 25}) {
            same("limit(" + what + ") answers", refused(new NoiseWatch(), what) > 0 ? 1 : 0, 1);
        }
        CHECK.part("odds, NONE: another what");
        for (int what : new int[] {-1, 2, 3, Integer.MIN_VALUE, Integer.MAX_VALUE}) {
            States.refused(CHECK, "odds(" + what + ", false)", x -> x.odds(what, false));
            States.refused(CHECK, "odds(" + what + ", true)", x -> x.odds(what, true));
        }
    }

    private static void odds(int chance, int log, int window, int what, long upper, long lower) {
        NoiseWatch x = by(chance, log, window);
        String name = "odds(" + what + ") by " + chance + ", " + log + ", " + window;
        same(name, x.odds(what, false), upper);
        same(name + ", under", x.odds(what, true), lower);
    }

    private static void canNot() {
        CHECK.part("in least terms, the upper number, or (under) the lower one. (0 by 1, if it can not.)");
        odds(8, 3, 4, 0, 1, 8);
        odds(8, 4, 4, 0, 0, 1);
        odds(8, 3, 4, 1, 1, 8);
        odds(8, 4, 4, 1, 0, 1);
        odds(8, 1, 4, 0, 1, 2);
        odds(8, 2, 4, 0, 1, 8);
        odds(8, 14, 15, 0, 1, 16384);
        odds(8, 15, 15, 0, 0, 1);
        odds(15, 14, 15, 1, 1, 16384);
        odds(15, 15, 15, 1, 0, 1);
        odds(15, 1, 15, 0, 29192926025390625L, 1L << 56);
        odds(15, 2, 15, 0, 0, 1);
        odds(12, 1, 4, 0, 27, 64);
        odds(13, 1, 4, 0, 0, 1);
        odds(15, 40, 15, 0, 0, 1);
    }

    private static BigInteger[] tails(int tries, int chance) {
        BigInteger[] tails = new BigInteger[tries + 2];
        tails[tries + 1] = BigInteger.ZERO;
        BigInteger ways = BigInteger.ONE;
        for (int k = tries; k >= 0; k--) {
            tails[k] = tails[k + 1].add(ways.multiply(BigInteger.valueOf(chance).pow(k))
                .multiply(BigInteger.valueOf(16 - chance).pow(tries - k)));
            ways = ways.multiply(BigInteger.valueOf(k)).divide(BigInteger.valueOf(tries - k + 1));
        }
        return tails;
    }

    /** The least c from 1 on, or one more than all tries. */
    private static int least(BigInteger[] tails, int log) {
        int tries = tails.length - 2;
        int c = 1;
        while (c <= tries && tails[c].shiftLeft(log).compareTo(BigInteger.ONE.shiftLeft(4 * tries)) > 0) {
            c++;
        }
        return c;
    }

    private static void oddsOf(NoiseWatch x, int what, BigInteger upper, int tries) {
        BigInteger lower = BigInteger.ONE.shiftLeft(4 * tries);
        BigInteger both = upper.gcd(lower);
        same("odds(" + what + ")", x.odds(what, false), upper.divide(both).longValueExact());
        same("odds(" + what + "), under", x.odds(what, true), lower.divide(both).longValueExact());
    }

    private static void everyClaim() {
        for (int chance = 8; chance <= 15; chance++) {
            for (int log = 1; log <= 40; log++) {
                int repeats = 2;
                while (repeats < 16 && BigInteger.valueOf(chance).pow(repeats - 1).shiftLeft(log)
                        .compareTo(BigInteger.ONE.shiftLeft(4 * repeats - 4)) > 0) {
                    repeats++;
                }
                for (int window = 4; window <= 15; window++) {
                    CHECK.part("LIMITS by CHANCE " + chance + ", LOG " + log + ", WINDOW " + window);
                    NoiseWatch x = by(chance, log, window);
                    BigInteger[] like = tails(window - 1, chance);
                    BigInteger[] unlike = tails(window - 1, 8);
                    same("REPEATS", x.limit(0), repeats);
                    same("PROPORTION", x.limit(1), least(like, log) + 1);
                    same("CHANGES", x.limit(2), least(unlike, log));
                    oddsOf(x, 0, like[least(like, log)], window - 1);
                    oddsOf(x, 1, unlike[least(unlike, log)], window - 1);
                    same("ROWS", x.limit(10 + window), least(tails(window, chance), log));
                }
                NoiseWatch x = by(chance, log, 4);
                for (int n = 1; n <= 15; n++) {
                    same("ROWS of " + n, x.limit(10 + n), least(tails(n, chance), log));
                }
            }
        }
    }

    public static void main(String[] args) {
        repeats();
        proportion();
        changes();
        rows();
        earned();
        anotherWhat();
        canNot();
        everyClaim();
        CHECK.end("LimitsEdgesTest");
    }
}
