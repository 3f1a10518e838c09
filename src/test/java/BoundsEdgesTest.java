import java.util.function.IntToLongFunction;

/** The edges of BOUNDS (Terms 3) and of what asks for them: promises 16 to 24. */
public final class BoundsEdgesTest {
    private static final Check CHECK = new Check();
    private static final int LEAST = Integer.MIN_VALUE;
    private static final int MOST = Integer.MAX_VALUE;
    /** No ALARM comes below 16 alike. */
    private static final String CALM = "log 40;";
    private static final String MIXED = "0110100110010110";

    private static void same(String what, long got, long want) {
        CHECK.same(what, got, want);
    }

    private static NoiseWatch of(String samples) {
        return Check.heard(CALM, samples);
    }

    private static NoiseWatch of(int chance, String samples) {
        return Check.heard(CALM + "chance " + chance + ";", samples);
    }

    /** HISTORY of so many SAMPLES, no more than 2 alike. */
    private static NoiseWatch many(int n) {
        return of(MIXED.repeat(26).substring(0, n));
    }

    private interface Asked {
        long of(NoiseWatch x, int n);
    }

    /** A question of the latest n has an answer from the least n on, up to 400 and as many as there are. */
    private static void latest(String name, Asked asked, int least, long none) {
        for (int n : new int[] {LEAST, -400, -2, -1, 0, least - 1, 401, 402, MOST}) {
            States.refused(CHECK, name + " of " + n, x -> asked.of(x, n), none);
            same(name + " of " + n + ", 400 heard", asked.of(many(400), n), none);
            same(name + " of " + n + ", 416 heard", asked.of(many(416), n), none);
        }
        for (int heard : new int[] {0, 1, 2, 3, 15, 399, 400}) {
            IntToLongFunction ask = n -> asked.of(many(heard), n);
            same(name + ": one more than " + heard, ask.applyAsLong(heard + 1), none);
            if (heard >= least) {
                same(name + ": as many as " + heard, ask.applyAsLong(heard) != none ? 1 : 0, 1);
                same(name + ": the least of " + heard, ask.applyAsLong(least) != none ? 1 : 0, 1);
            }
        }
        same(name + ": 400 of 416", asked.of(many(416), 400) != none ? 1 : 0, 1);
    }

    private static void fraction(String samples, int what, int n, int above, int below) {
        NoiseWatch x = of(samples);
        same("bound(" + what + ", " + n + ") of " + samples, x.bound(what, n, false), above);
        same("bound(" + what + ", " + n + ", under) of " + samples, x.bound(what, n, true), below);
    }

    private static void whole(String samples, int what, int above, int below) {
        fraction(samples, what, samples.length(), above, below);
    }

    private static void common() {
        CHECK.part("COMMON: how many are of the value that is more, by n");
        whole("01", 0, 1, 2);
        whole("00", 0, 2, 2);
        whole("11", 0, 2, 2);
        whole("0011", 0, 2, 4);
        whole("0001", 0, 3, 4);
        whole("0111", 0, 3, 4);
        fraction("1110", 0, 2, 1, 2);
        fraction("0011", 0, 2, 2, 2);
        fraction("1000", 0, 3, 3, 3);
        same("of the latest 400 of 416", many(416).bound(0, 400, false), 200);
    }

    private static void collision() {
        CHECK.part("COLLISION: .. steps: two, if the next two are alike, else three, as long as they are all there");
        whole("00", 1, 2, 1);
        whole("11", 1, 2, 1);
        whole("000", 1, 2, 1);
        whole("0000", 1, 4, 2);
        whole("010", 1, 3, 1);
        whole("011", 1, 3, 1);
        whole("100", 1, 3, 1);
        whole("0101", 1, 3, 1);
        whole("01010", 1, 3, 1);
        whole("010100", 1, 3 + 3, 2);
        whole("01000", 1, 5, 2);
        whole("0001", 1, 2, 1);
        whole("00010", 1, 5, 2);
        whole("0110100111", 1, 9, 3);
        fraction("0100", 1, 3, 3, 1);
        fraction("0100", 1, 2, 2, 1);
        CHECK.part("COLLISION of 400: the last step ends with the last SAMPLE");
        whole("0011".repeat(100), 1, 400, 200);
        whole("010" + "0011".repeat(98) + "00" + "010", 1, 400, 199);
        whole("010" + "0011".repeat(98) + "00" + "01", 1, 397, 198);
        CHECK.part("(COLLISION without a step: 0 by 0)");
        whole("01", 1, 0, 0);
        whole("10", 1, 0, 0);
        fraction("0001", 1, 2, 0, 0);
        fraction("0001", 1, 3, 2, 1);
    }

    private static void follow() {
        CHECK.part("FOLLOW is that of the value of which it is greater; of as great ones that of 0");
        whole("01010", 2, 2, 2);
        whole("0101", 2, 2, 2);
        whole("1010", 2, 1, 1);
        whole("00110", 2, 1, 2);
        whole("0011001", 2, 2, 4);
        whole("1100110", 2, 1, 2);
        whole("1110001", 2, 2, 3);
        whole("00010", 2, 1, 1);
        whole("111011", 2, 1, 1);
        whole("0110110", 2, 2, 2);
        whole("1001001", 2, 2, 2);
        whole("11101110111", 2, 2, 2);
        CHECK.part("of as great ones that of 0: not in least terms");
        whole("0010110", 2, 2, 3);
        whole("1101001", 2, 2, 3);
        whole("1111100010", 2, 2, 3);
        CHECK.part("a value that is not followed at all is not asked");
        whole("00", 2, 1, 1);
        whole("01", 2, 1, 1);
        whole("10", 2, 1, 1);
        whole("11", 2, 1, 1);
        whole("1111", 2, 3, 3);
        whole("1110", 2, 2, 3);
        whole("0001", 2, 2, 3);
        CHECK.part("(one of these n right behind)");
        fraction("0111", 2, 3, 2, 2);
        fraction("1110", 2, 2, 1, 1);
        fraction("1101", 2, 2, 1, 1);
        CHECK.part("FOLLOW of 400: the last one but one is followed by the last");
        whole("0011".repeat(100), 2, 100, 199);
        whole("1100".repeat(100), 2, 100, 199);
    }

    private static void bound() {
        common();
        collision();
        follow();
        CHECK.part("of the latest n SAMPLES, 2 to 400 .. NONE: another what, not so many.");
        for (int what = 0; what < 3; what++) {
            int asked = what;
            latest("bound(" + what + ")", (x, n) -> x.bound(asked, n, false), 2, -1);
            latest("bound(" + what + ", under)", (x, n) -> x.bound(asked, n, true), 2, -1);
        }
        for (int what : new int[] {LEAST, -1, 3, 4, MOST}) {
            States.refused(CHECK, "bound(" + what + ")", x -> x.bound(what, 2, false));
            States.refused(CHECK, "bound(" + what + ", under)", x -> x.bound(what, 2, true));
        }
    }

    private static void holds(String what, int chance, String samples, int bit, boolean want) {
        int bits = of(chance, samples).holds(samples.length());
        same(what + " of " + samples + " by " + chance, bits & bit, want ? bit : 0);
    }

    private static void holds() {
        CHECK.part("HOLD: COMMON does, if n times CHANCE is no less than 16 times what is above");
        holds("8 of 16", 8, MIXED, 1, true);
        holds("9 of 16", 8, "0110100110010111", 1, false);
        holds("9 of 16", 9, "0110100110010111", 1, true);
        holds("3 of 4", 12, "0111", 1, true);
        holds("3 of 4", 11, "0111", 1, false);
        holds("15 of 16", 15, "0111111111111111", 1, true);
        holds("15 of 16", 14, "0111111111111111", 1, false);
        holds("2 of 2", 15, "00", 1, false);
        holds("1 of 2", 8, "01", 1, true);
        CHECK.part("COLLISION, if 256 times what is above is no less than what is below times ..");
        holds("5 by 2: 1280 and 1280", 8, "00010", 2, true);
        holds("7 by 3: 1792 and 1920", 8, "0001000", 2, false);
        holds("7 by 3: 1792 and 3 * 638", 9, "0001000", 2, false);
        holds("9 by 4: 2304 and 4 * 608", 12, "000100000", 2, false);
        holds("9 by 4: 2304 and 4 * 590", 13, "000100000", 2, false);
        holds("9 by 4: 2304 and 4 * 568", 14, "000100000", 2, true);
        holds("11 by 5: 2816 and 5 * 568", 14, "00010000000", 2, false);
        holds("11 by 5: 2816 and 5 * 542", 15, "00010000000", 2, true);
        holds("2 by 1: 512 and 542", 15, "00", 2, false);
        holds("3 by 1: 768 and 640", 8, "010", 2, true);
        String three = "010" + "101";
        String two = "00" + "11";
        holds("322 by 129: 82432 and 82560", 8, three.repeat(32) + two.repeat(32) + "00", 2, false);
        holds("323 by 129: 82688 and 82560", 8, three.repeat(32) + two.repeat(32) + "010", 2, true);
        CHECK.part("(bits; 0 by 0 does)");
        holds("0 by 0", 8, "01", 2, true);
        holds("0 by 0", 15, "10", 2, true);
        CHECK.part("FOLLOW, if what is below times CHANCE is no less than 16 times what is above");
        holds("1 by 2", 8, "00110", 4, true);
        holds("2 by 3", 10, "0010110", 4, false);
        holds("2 by 3", 11, "0010110", 4, true);
        holds("3 by 4", 12, "0110100111", 4, true);
        holds("3 by 4", 11, "0110100111", 4, false);
        holds("1 by 1", 15, "01", 4, false);
        CHECK.part("Which of these HOLD (bits");
        same("none", of("11").holds(2), 0);
        same("COMMON", of(15, "0111111111111111").holds(16) & 1, 1);
        same("COMMON and COLLISION", of(8, "01").holds(2), 3);
        same("FOLLOW alone", of(8, "00110").holds(5), 4);
        same("COMMON and FOLLOW", of("001101100").holds(9), 5);
        same("all", of(15, MIXED).holds(16), 7);
        CHECK.part("holds, NONE: not so many, another n.");
        latest("holds", NoiseWatch::holds, 2, -1);
    }

    private static void claim() {
        CHECK.part("The least CHANCE, 8 to 16, by which COMMON and FOLLOW of the latest n SAMPLES would HOLD.");
        same("4 of 8, 2 by 3: 11", of("0011001100").claim(8), 11);
        same("1 by 1: 16", of("01").claim(2), 16);
        same("2 of 2: 16", of("11").claim(2), 16);
        same("3 of 4, 2 by 2: 16", of("0111").claim(4), 16);
        same("3 of 5, 1 by 2: 10", of("00110").claim(5), 10);
        same("5 of 9, 1 by 2: 9", of("001100110").claim(9), 9);
        same("6 of 10, 3 by 4: 12", of("0110100111").claim(10), 12);
        same("2 by 3, 3 of 6: 11", of("110100").claim(6), 11);
        same("5 of 9, 3 by 4: 12", of("011001011").claim(9), 12);
        for (int chance : new int[] {8, 15}) {
            same("whatever CHANCE is", of(chance, "00110").claim(5), 10);
        }
        same("15 of 16, 14 by 15: 15", of("1111111111111110").claim(16), 15);
        same("7 of 8, 6 by 7: 14", of("11111110").claim(8), 14);
        same("4 of 5, 3 by 4: 13", of("11110").claim(5), 13);
        CHECK.part("claim: both sides of it");
        for (String samples : new String[] {"0110100111", "001100110", "0010110", "00110", MIXED, "0001101011100101"}) {
            int n = samples.length();
            int least = of(samples).claim(n);
            for (int chance = 8; chance <= 15; chance++) {
                same(samples + " by " + chance, (of(chance, samples).holds(n) & 5) == 5 ? 1 : 0, chance >= least ? 1 : 0);
            }
        }
        same("by counting pairs", of("001101100110011").claim(14), claimByHand("01101100110011"));
        CHECK.part("claim, NONE: likewise.");
        latest("claim", NoiseWatch::claim, 2, -1);
    }

    /** The greater of what COMMON and FOLLOW ask for, rounded up. */
    private static int claimByHand(String s) {
        int[][] pairs = new int[2][2];
        int ones = s.charAt(0) - '0';
        for (int i = 1; i < s.length(); i++) {
            pairs[s.charAt(i - 1) - '0'][s.charAt(i) - '0']++;
            ones += s.charAt(i) - '0';
        }
        int least = 8;
        least = Math.max(least, (16 * Math.max(ones, s.length() - ones) + s.length() - 1) / s.length());
        for (int[] pair : pairs) {
            int all = pair[0] + pair[1];
            least = Math.max(least, (16 * Math.max(pair[0], pair[1]) + all - 1) / all);
        }
        return least;
    }

    private static void tuple() {
        CHECK.part("TUPLE of t: of rows of t SAMPLES that follow one another among the latest n (n - t + 1 of them)");
        same("one row of 8", of("01101001").tuple(8, 8), 1);
        same("two rows of 8", of("010101010").tuple(9, 8), 1);
        same("three rows of 8", of("0101010101").tuple(10, 8), 2);
        same("8 rows of 8 overlap", of("000000000000000").tuple(15, 8), 8);
        same("of the latest alone", of("1110000000").tuple(5, 3), 3);
        same("not with those ahead", of("11100").tuple(3, 2), 1);
        same("values alone", of("01101").tuple(5, 1), 3);
        same("one of one", of("1").tuple(1, 1), 1);
        same("pairs 01", of("0101101").tuple(7, 2), 3);
        CHECK.part("TUPLE of t, 1 to 8 (and n at most), of the latest n, 1 to 400. NONE: others, not so many.");
        for (int t = 1; t <= 8; t++) {
            int asked = t;
            same("t " + t + " of " + t, many(400).tuple(t, t), 1);
            same("t " + t + " of " + (t - 1), many(400).tuple(t - 1, t), -1);
            same("t " + t + " of 400", many(400).tuple(400, t) > 0 ? 1 : 0, 1);
            latest("tuple by " + t, (x, n) -> x.tuple(n, asked), t, -1);
        }
        for (int t : new int[] {LEAST, -1, 0, 9, 10, 31, 32, 33, MOST}) {
            States.refused(CHECK, "tuple(1, " + t + ")", x -> x.tuple(1, t));
            same("tuple(400, " + t + ")", many(400).tuple(400, t), -1);
        }
    }

    private static void spreads(int chance, String samples, int t, boolean want) {
        NoiseWatch x = of(chance, samples);
        same("spreads(" + samples + ", " + t + ") by " + chance, x.spreads(samples.length(), t) ? 1 : 0, want ? 1 : 0);
    }

    private static void spreads() {
        CHECK.part("It SPREADS, if that, times 16 to the t, is no more than how many rows there are, times CHANCE to the t.");
        spreads(12, "0111", 1, true);
        spreads(11, "0111", 1, false);
        spreads(8, "01", 1, true);
        spreads(8, "001", 1, false);
        spreads(12, "0111", 2, false);
        spreads(14, "0111", 2, true);
        spreads(13, "0111", 2, false);
        spreads(8, "00110", 2, true);
        spreads(8, "0011", 2, false);
        spreads(15, "01101001", 8, false);
        spreads(15, "011010011", 8, true);
        spreads(14, "011010011", 8, false);
        spreads(15, "0110100111", 8, true);
        spreads(14, "0110100111", 8, true);
        spreads(13, "0110100111", 8, false);
        CHECK.part("false: others, too.");
        for (int t = 1; t <= 8; t++) {
            int asked = t;
            for (int n : new int[] {LEAST, -1, 0, t - 1, 401, MOST}) {
                States.refused(CHECK, "spreads(" + n + ", " + t + ")", x -> x.spreads(n, asked) ? 1 : 0, 0);
                same("spreads(" + n + ", " + t + ") of 400", spreading(400).spreads(n, t) ? 1 : 0, 0);
            }
            same("spreads(400, " + t + ")", spreading(400).spreads(400, t) ? 1 : 0, 1);
            same("spreads(401, " + t + ")", spreading(416).spreads(401, t) ? 1 : 0, 0);
            same("spreads(399, " + t + ") of 399", spreading(399).spreads(399, t) ? 1 : 0, 1);
            same("spreads(400, " + t + ") of 399", spreading(399).spreads(400, t) ? 1 : 0, 0);
        }
        for (int t : new int[] {LEAST, -1, 0, 9, 10, 32, MOST}) {
            States.refused(CHECK, "spreads(1, " + t + ")", x -> x.spreads(1, t) ? 1 : 0, 0);
            same("spreads(400, " + t + ")", spreading(400).spreads(400, t) ? 1 : 0, 0);
        }
    }

    private static NoiseWatch spreading(int n) {
        return of(15, MIXED.repeat(26).substring(0, n));
    }

    private static void lag() {
        CHECK.part("LAG of d: how many of the latest n, but for the first d of them, are as the one d ahead of them.");
        same("1 of 00", of("00").lag(2, 1), 1);
        same("1 of 01", of("01").lag(2, 1), 0);
        same("the first d are asked of none", of("000").lag(3, 2), 1);
        same("not of those ahead of the latest", of("0100").lag(3, 2), 0);
        same("of those ahead of it", of("0100").lag(4, 2), 1);
        same("alternating by 1", of("01010101").lag(8, 1), 0);
        same("alternating by 2", of("01010101").lag(8, 2), 6);
        same("as many as there can be", of("000000000000000").lag(15, 14), 1);
        CHECK.part("LAG of d, 1 to 32, below n, of the latest n. NONE: others, not so many.");
        for (int d : new int[] {1, 2, 15, 31, 32}) {
            latest("lag by " + d, (x, n) -> x.lag(n, d), d + 1, -1);
            same("d " + d + " of " + d, many(400).lag(d, d), -1);
            same("d " + d + " of " + (d + 1), many(400).lag(d + 1, d) >= 0 ? 1 : 0, 1);
        }
        for (int d : new int[] {LEAST, -1, 0, 33, 34, 399, 400, MOST}) {
            States.refused(CHECK, "lag(2, " + d + ")", x -> x.lag(2, d));
            same("lag(400, " + d + ")", many(400).lag(400, d), -1);
        }
    }

    private static void echo() {
        CHECK.part("The d, 1 to 32, below n, of which LAG by n - d is greatest; of several the least.");
        same("01: 0 of 1", of("01").echo(2), 1);
        same("00: 1 of 1", of("00").echo(2), 1);
        same("010: 0 of 2, 1 of 1", of("010").echo(3), 2);
        same("000: 2 of 2, 1 of 1", of("000").echo(3), 1);
        same("001: 1 of 2, 0 of 1", of("001").echo(3), 1);
        same("0110: 1 of 3, 0 of 2, 1 of 1", of("0110").echo(4), 3);
        same("0100: 1 of 3, 1 of 2, 1 of 1", of("0100").echo(4), 3);
        same("00010: 2 of 4, 2 of 3, 1 of 2, 1 of 1", of("00010").echo(5), 4);
        same("010101: 2, 4 and 6", of("0101010").echo(7), 2);
        same("0110110110: 3, 6 and 9", of("0110110110").echo(10), 3);
        for (int d : new int[] {31, 32, 33, 34}) {
            NoiseWatch x = of(period(d) + period(d) + period(d));
            same("a row of " + d + " over and over", x.echo(3 * d) == d ? 1 : 0, d <= 32 ? 1 : 0);
        }
        CHECK.part("echo: below n");
        NoiseWatch x = of(period(32) + "0");
        same("32 of 33: 1 of 1", x.echo(33), 32);
        same("32 of 32: 31 is not", x.echo(32) < 32 ? 1 : 0, 1);
        CHECK.part("echo, NONE: not so many, another n.");
        latest("echo", NoiseWatch::echo, 2, -1);
    }

    /** A row of mixed SAMPLES that is no shorter row over and over. */
    private static String period(int d) {
        return "0011101000010010110011111000110111".substring(0, d - 1) + "1";
    }

    private static void row(NoiseWatch x, String samples) {
        x.start();
        same("heard", Check.hand(x, samples), samples.length());
    }

    private static void comparedRows() {
        CHECK.part("each ROW that has 15 SAMPLES: how many are of the value that is more");
        NoiseWatch x = Check.with("log 40;start 0;");
        for (int what = 0; what < 5; what++) {
            same("no ROW, " + what, x.compared(what), 0);
        }
        row(x, "00000000000000");
        same("14", x.compared(0), 0);
        same("14 of a value", x.compared(1), 0);
        Check.hand(x, "0");
        same("15", x.compared(0), 1);
        same("15 zeros", x.compared(1), 15);
        Check.hand(x, "1111");
        same("still", x.compared(1), 15);
        NoiseWatch y = Check.with("log 40;start 0;");
        row(y, "010101010101010");
        same("8 zeros", y.compared(1), 8);
        row(y, "110111101111011");
        same("12 ones", y.compared(1), 12);
        CHECK.part("2: the greatest of columns (0: fewer than 2 ROWS)");
        NoiseWatch z = Check.with("log 40;start 0;");
        row(z, "010101010101010");
        same("one ROW", z.compared(2), 0);
        row(z, "10101010101010");
        same("one ROW and a short one", z.compared(2), 0);
        Check.hand(z, "1");
        same("two ROWS, all unlike", z.compared(2), 1);
        row(z, "10101010101010");
        same("and a short one", z.compared(2), 1);
        same("two have 15", z.compared(0), 2);
        Check.hand(z, "1");
        same("three ROWS", z.compared(2), 2);
        same("three have 15", z.compared(0), 3);
        for (int column = 0; column < 15; column++) {
            NoiseWatch one = Check.with("log 40;start 0;");
            StringBuilder other = new StringBuilder("101010101010101");
            other.setCharAt(column, (char) ('0' + column % 2));
            row(one, "010101010101010");
            row(one, other.toString());
            same("two alike in column " + column, one.compared(2), 2);
        }
        CHECK.part("compared, NONE: another what.");
        for (int what : new int[] {LEAST, -1, 5, 6, MOST}) {
            States.refused(CHECK, "compared(" + what + ")", w -> w.compared(what));
        }
    }

    /** CHANCE 9, LOG 3, WINDOW 4: REPEATS 5, ROWS of 15: 12, of 2 and 3: 3 and 4, of 6 and 7: 6. */
    private static void odd() {
        String by = "chance 9;log 3;window 4;start 0;";
        String twelve = "110111101111011";
        // 5 alike at its end: an ALARM comes with the 15th, so that the ROW is whole.
        String thirteen = "111101111011111";
        CHECK.part("what is more than ROWS of 15 .. is ODD: ROWS");
        NoiseWatch x = Check.with(by);
        same("ROWS of 15", x.limit(25), 12);
        row(x, twelve);
        same("12", x.compared(1), 12);
        same("12 is not more", x.compared(3), 0);
        row(x, thirteen);
        same("13", x.compared(1), 13);
        same("13 is: the second", x.compared(3), 2);
        row(x, "11");
        row(x, twelve);
        row(x, "000010000100000");
        same("of zeros, too: the fifth", x.compared(3), 2 + 16);
        x.start();
        x.start();
        same("ROWS of none change no bit", x.compared(3), 2 + 16);
        for (int i = 0; i < 8; i++) {
            x.start();
        }
        same("15 ROWS", x.count(27), 15);
        same("no bit moves", x.compared(3), 2 + 16);
        row(x, thirteen);
        same("the first ROW went", x.compared(3), 1 + 8 + (1 << 14));
        x.start();
        same("the second, too", x.compared(3), 4 + (1 << 13));
        CHECK.part("what is more than ROWS .. of as many as these ROWS, is ODD: columns");
        NoiseWatch y = Check.with(by);
        String pairs = "110011001100110";
        for (int i = 1; i <= 6; i++) {
            row(y, pairs);
            same("columns of " + i, y.compared(2), i < 2 ? 0 : i);
            same("no column of " + i, y.compared(4), 0);
        }
        same("ROWS of 6", y.limit(16), 6);
        same("ROWS of 7", y.limit(17), 6);
        row(y, "11001100110011");
        same("a short one is none", y.compared(4), 0);
        Check.hand(y, "1");
        same("7 are more than 6, but for the last column", y.compared(4), (1 << 14) - 1);
        row(y, "001100110011001");
        same("7 of 8: ROWS of 8 is 7", y.limit(18), 7);
        same("7 is not more than 7", y.compared(4), 0);
    }

    private static void compared() {
        comparedRows();
        odd();
    }

    private static void longest(String samples, int n, int length, int place) {
        NoiseWatch x = of(samples);
        same("longest(" + n + ") of " + samples, x.longest(n, false), length);
        same("longest(" + n + ", where) of " + samples, x.longest(n, true), place);
    }

    private static void longest() {
        CHECK.part("The longest row of like SAMPLES .., or (where) the place in HISTORY at which the first such begins.");
        longest("0", 1, 1, 0);
        longest("01", 2, 1, 0);
        longest("01", 1, 1, 1);
        longest("0011", 4, 2, 0);
        longest("0011", 3, 2, 2);
        longest("0011", 2, 2, 2);
        longest("00111", 5, 3, 2);
        longest("00011", 4, 2, 1);
        longest("00011", 3, 2, 3);
        longest("0001111000", 10, 4, 3);
        longest("0001111000", 6, 3, 4);
        longest("0001111000", 5, 3, 7);
        longest("000000000000000", 15, 15, 0);
        longest("000000000000000", 9, 9, 6);
        NoiseWatch x = Check.with(CALM);
        x.start();
        Check.hand(x, "0111");
        x.start();
        Check.hand(x, "110");
        same("over STARTS", x.longest(7, false), 5);
        same("over STARTS, where", x.longest(7, true), 1);
        NoiseWatch round = many(400);
        Check.hand(round, "1000000");
        same("400 of 407", round.longest(400, false), 6);
        same("its place in HISTORY", round.longest(400, true), 394);
        CHECK.part("in the latest n of HISTORY, 1 to 400 .. NONE: not so many, another n.");
        latest("longest", (y, n) -> y.longest(n, false), 1, -1);
        latest("longest, where", (y, n) -> y.longest(n, true), 1, -1);
    }

    public static void main(String[] args) {
        bound();
        holds();
        claim();
        tuple();
        spreads();
        lag();
        echo();
        compared();
        longest();
        CHECK.end("BoundsEdgesTest");
    }
}
