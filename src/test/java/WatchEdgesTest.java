/** The edges of Terms 2: SAMPLES that are DRAWN, TESTS, START, the BLOCK, the POOL, HISTORY, ROWS. */
public final class WatchEdgesTest {
    private static final Check CHECK = new Check();
    /** REPEATS 16, and no other TEST can fail. */
    private static final String CALM = "chance 8;log 40;start 0;";
    private static final String ONES = "1111111111111111";

    private static void same(String what, long got, long want) {
        CHECK.same(what, got, want);
    }

    private static void same(String what, String got, String want) {
        CHECK.same(what, got, want);
    }

    private static void counts(String when, NoiseWatch x, int from, int... want) {
        for (int i = 0; i < want.length; i++) {
            same(when + ", count(" + (from + i) + ")", x.count(from + i), want[i]);
        }
    }

    private static String repeated(String some, int times) {
        return some.repeat(times);
    }

    // ---- the SOURCE

    /** The numbers below 16 by whole numbers without a sign, so that nothing wraps but what is cut off. */
    private static int[] numbers(long seed, int many) {
        int[] numbers = new int[many];
        long x = seed;
        for (int i = 0; i < many; i++) {
            x = (x * 1103515245L + 12345L) % 4294967296L;
            numbers[i] = (int) (x / 65536 % 16);
        }
        return numbers;
    }

    private static String drawn(String settings, int n) {
        NoiseWatch x = Check.with(CALM + settings);
        x.start();
        x.draw(n);
        return Check.history(x, 0);
    }

    private static void of32Bits() {
        CHECK.part("x becomes x * 1103515245 + 12345 (of 32 bits); .. shifted right by 16 without sign");
        for (int seed : new int[] {0, 1, 2, 4711, 9999}) {
            int[] numbers = numbers(seed, 600);
            StringBuilder due = new StringBuilder();
            for (int i = 1; i < 600; i += 2) {
                due.append(numbers[i] < 8 ? 1 : 0);
            }
            String got = drawn("seed " + seed + ";", 300);
            same("seed " + seed, got, due.substring(0, got.length()));
            same("seed " + seed + " is long", got.length() > 100 ? 1 : 0, 1);
        }
    }

    private static void lessThanStick() {
        CHECK.part("if that is less than STICK, the SAMPLE is as the one DRAWN ahead of it (0 for the first one)");
        for (int seed = 20; seed < 60; seed++) {
            int first = numbers(seed, 1)[0];
            String by = "bias 16;seed " + seed + ";stick ";
            if (first > 0 && first < 16) {
                same("STICK as great, seed " + seed, drawn(by + first + ";", 1), "1");
            }
            if (first < 15) {
                same("STICK greater by 1, seed " + seed, drawn(by + (first + 1) + ";", 1), "0");
            } else {
                same("STICK 15 of 15, seed " + seed, drawn(by + "15;", 1), "1");
            }
        }
        same("STICK 0: none sticks", drawn("bias 16;stick 0;", 15), ONES.substring(1));
        CHECK.part("else one below 16 more is: none more, if it sticks");
        int[] numbers = numbers(7, 900);
        StringBuilder due = new StringBuilder();
        int at = 0;
        char last = '0';
        for (int i = 0; i < 60; i++) {
            if (numbers[at++] >= 6) {
                last = numbers[at++] < 8 ? '1' : '0';
            }
            due.append(last);
        }
        same("STICK 6", drawn("seed 7;stick 6;", 60), due.toString());
    }

    private static void lessThanBias() {
        CHECK.part("it is 1, if that is less than BIAS, else 0");
        for (int seed = 20; seed < 60; seed++) {
            int second = numbers(seed, 2)[1];
            String by = "seed " + seed + ";bias ";
            same("BIAS as great, seed " + seed, drawn(by + second + ";", 1), "0");
            same("BIAS greater by 1, seed " + seed, drawn(by + (second + 1) + ";", 1), "1");
        }
        same("BIAS 0", drawn("bias 0;seed 5;", 15), "000000000000000");
        same("BIAS 16", drawn("bias 16;seed 5;", 15), ONES.substring(1));
    }

    private static void stuckByNumber() {
        CHECK.part("if it is STUCK (it is numbered, from 0 on), it is that value");
        same("from 0", drawn("bias 0;stuck 0 0 1;", 3), "100");
        same("from 1", drawn("bias 0;stuck 1 1 1;", 3), "010");
        same("from one up to one, both", drawn("bias 0;stuck 3 5 1;", 8), "00011100");
        same("a 0", drawn("bias 16;stuck 3 5 0;", 8), "11100011");
        NoiseWatch x = Check.with("bias 0;stuck 9999 9999 1;");
        for (int i = 0; i < 24; i++) {
            x.draw(400);
        }
        x.draw(398);
        x.start();
        x.draw(3);
        same("9998, 9999, 10000", Check.history(x, 0), "010");
        counts("all DRAWN", x, 13, 10001, 3);
        CHECK.part("the later one holds");
        same("the later one inside", drawn("bias 0;stuck 1 6 1;stuck 3 4 0;", 8), "01100110");
        same("the later one over it", drawn("bias 0;stuck 3 4 0;stuck 1 6 1;", 8), "01111110");
        same("the last one of four",
            drawn("bias 0;stuck 0 9 1;stuck 2 8 0;stuck 4 6 1;stuck 5 5 0;", 11), "11001010010");
        CHECK.part("it is STUCK only as it is DRAWN");
        NoiseWatch told = Check.heard(CALM + "bias 0;stuck 0 9 1;", "00");
        same("by hand", Check.history(told, 0), "00");
        told.draw(1);
        same("the first one DRAWN", Check.history(told, 0), "001");
        CHECK.part("(What is DRAWN ahead of it: as it was then.)");
        int sticks = 0;
        while (numbers(sticks, 3)[0] < 15 || numbers(sticks, 3)[2] >= 15) {
            sticks++;
        }
        String by = "bias 0;stick 15;seed " + sticks + ";";
        same("as a STUCK one", drawn(by + "stuck 0 0 1;", 2), "11");
        same("as one that is not", drawn(by, 2), "00");
        NoiseWatch off = Check.with(CALM + by + "stuck 0 0 1;");
        off.draw(1);
        off.start();
        off.draw(1);
        same("as one DRAWN while OFF", Check.history(off, 0), "1");
        NoiseWatch hand = Check.with(CALM + by);
        hand.start();
        hand.draw(1);
        Check.hand(hand, "1");
        hand.draw(1);
        same("not as one told by hand", Check.history(hand, 0), "010");
    }

    // ---- TESTS

    private static void doesNotListen() {
        CHECK.part("OFF and in ALARM it does not listen");
        NoiseWatch off = new NoiseWatch();
        same("OFF, draw", off.draw(40), 0);
        same("OFF, hand", off.hand(-1, 32), 0);
        counts("OFF", off, 9, 0, 0, 0, 0, 40, 0, 0, 0, 0, 0, 0, 0, 0, 0, 0, 0, 0, 0, 0);
        NoiseWatch x = Check.heard(CALM, ONES);
        String counts = "";
        for (int what = 14; what < 28; what++) {
            counts += x.count(what) + " ";
        }
        same("ALARM", x.count(9), 3);
        same("ALARM, draw", x.draw(40), 0);
        same("ALARM, hand", x.hand(0x55555555, 32), 0);
        String behind = "";
        for (int what = 14; what < 28; what++) {
            behind += x.count(what) + " ";
        }
        same("nothing of it", behind, counts);
        counts("but they are DRAWN", x, 9, 3, 1, 1, 1, 40, 16);
        same("none of it in HISTORY", Check.history(x, 0), ONES);
        x.start();
        same("STARTS, draw", x.draw(5), 5);
    }

    private static void repeatFails() {
        CHECK.part("REPEAT: .. as many as REPEATS or more");
        for (int log : new int[] {4, 5, 9, 13, 14, 15, 40}) {
            int repeats = Math.min(16, log + 1);
            NoiseWatch x = Check.with("chance 8;log " + log + ";window 4;start 0;");
            same("REPEATS", x.limit(0), repeats);
            x.start();
            Check.hand(x, ONES.substring(0, repeats - 1));
            counts(repeats - 1 + " of " + repeats, x, 9, 2, 0, 0);
            Check.hand(x, "0");
            Check.hand(x, ONES.substring(0, repeats - 1));
            counts(repeats - 1 + " of " + repeats + " behind another", x, 9, 2, 0, 0);
            same("alike", x.count(16), repeats - 1);
            Check.hand(x, "1");
            counts(repeats + " of " + repeats, x, 9, 3, 1, 1);
            same("alike", x.count(16), repeats);
        }
        CHECK.part("REPEAT: how many SAMPLES are alike one behind the other since it STARTS");
        NoiseWatch x = Check.heard(CALM, ONES.substring(1));
        x.start();
        Check.hand(x, ONES.substring(1));
        counts("15 and 15", x, 9, 2, 0, 0, 2);
        same("15 since", x.count(16), 15);
        Check.hand(x, "1");
        counts("16", x, 9, 3, 1, 1, 2);
        x.start();
        same("none since it STARTS", x.count(16), 0);
        Check.hand(x, "1");
        same("one", x.count(16), 1);
    }

    /** WINDOW 15: REPEATS 10, PROPORTION 14, CHANGES 12. */
    private static void proportionFails() {
        String six = "log 6;start 0;";
        CHECK.part("PROPORTION: .. SAMPLES of a WINDOW like its first one (that one, too) are as many as PROPORTION or more");
        NoiseWatch x = Check.heard(six, "11111110111111");
        counts("13 of 14", x, 9, 2, 0, 0);
        counts("13 of 14", x, 17, 14, 13, 2);
        x.image(0);
        Check.hand(x, "0");
        counts("13 of 15", x, 9, 2, 0, 0);
        counts("13 of 15", x, 17, 15, 13, 3);
        x.again(0);
        Check.hand(x, "1");
        counts("14 of 15", x, 9, 3, 2, 1);
        counts("14 of 15", x, 17, 15, 14, 2);
        NoiseWatch zeros = Check.heard(six, "000000010000000");
        counts("14 zeros of 15", zeros, 9, 3, 2, 1);
        CHECK.part("PROPORTION: like its first one, not the value that is more");
        NoiseWatch other = Check.heard(six, "011111110111111");
        counts("13 of the other value", other, 9, 2, 0, 0);
        counts("2 like the first one", other, 17, 15, 2, 3);
        CHECK.part("PROPORTION: WINDOWS of SAMPLES, one behind the other since it STARTS");
        NoiseWatch two = Check.heard(six, "110011001100110" + "1111110111111");
        counts("12 of the second 13", two, 17, 13, 12, 2);
        same("no ALARM", two.count(9), 2);
        Check.hand(two, "1");
        same("13 of 14", two.count(9), 2);
        Check.hand(two, "1");
        counts("14 of 15", two, 9, 3, 2, 1);
        NoiseWatch anew = Check.heard(six, "1111111");
        anew.start();
        counts("a WINDOW begins anew", anew, 16, 0, 0, 0, 0);
        Check.hand(anew, "11111110111111");
        same("13 of 14 since it STARTS", anew.count(9), 2);
        NoiseWatch never = Check.heard("log 20;start 0;", ONES.substring(1));
        same("PROPORTION is 16 of 15", never.limit(1), 16);
        same("it can not fail", never.count(9), 2);
        Check.hand(never, "1");
        counts("REPEAT alone does", never, 9, 3, 1);
    }

    private static void changeFails() {
        String six = "log 6;start 0;";
        CHECK.part("CHANGE: in a WINDOW SAMPLES unlike the one right ahead of them in it are as many as CHANGES or more");
        NoiseWatch x = Check.heard(six, "10101010101100");
        counts("11 changes", x, 9, 2, 0, 0);
        counts("11 changes", x, 17, 14, 7, 11);
        x.image(0);
        Check.hand(x, "0");
        counts("11 changes of 15", x, 9, 2, 0, 0);
        x.again(0);
        Check.hand(x, "1");
        counts("12 changes of 15", x, 9, 3, 4, 1);
        counts("12 changes of 15", x, 17, 15, 8, 12);
        NoiseWatch early = Check.heard(six, "0101010101010");
        counts("12 changes of 13", early, 9, 3, 4, 1, 1, 0, 13);
        CHECK.part("CHANGE: .. right ahead of them in it");
        NoiseWatch two = Check.heard(six, "110011001100110" + "1");
        counts("the first one of a WINDOW is unlike none", two, 17, 1, 1, 0);
        NoiseWatch edge = Check.heard("chance 8;log 2;window 4;start 0;", "1101" + "0010" + "1");
        counts("2, 2, 0 changes, and 2 between", edge, 9, 2, 0, 0);
        counts("of the third WINDOW", edge, 17, 1, 1, 0);
        NoiseWatch never = Check.heard("chance 8;log 4;window 4;start 0;", repeated("01", 16));
        same("CHANGES is 4 of 4", never.limit(2), 4);
        same("it can not fail", never.count(9), 2);
    }

    private static void toldInBits() {
        CHECK.part("Each TEST that fails is told (bits 1, 2, 4)");
        counts("1", Check.heard("chance 8;log 2;window 4;start 0;", "000"), 9, 3, 1, 1);
        counts("2", Check.heard("log 6;start 0;", "111111101111111"), 9, 3, 2, 1);
        counts("3", Check.heard("chance 8;log 3;window 4;start 0;", "0000"), 9, 3, 3, 1);
        counts("4", Check.heard("chance 8;log 2;window 4;start 0;", "0101"), 9, 3, 4, 1);
        NoiseWatch both = Check.heard("chance 9;log 1;window 7;start 0;", "110110");
        counts("ahead of both", both, 9, 2, 0, 0);
        Check.hand(both, "1");
        counts("6", both, 9, 3, 6, 1);
        CHECK.part("10: the TESTS that failed last (bits; 0: none did)");
        both.start();
        same("still 6", both.count(10), 6);
        both.stop();
        same("still 6", both.count(10), 6);
        both.start();
        Check.hand(both, "111");
        same("now 1", both.count(10), 1);
        same("two ALARMS", both.count(11), 2);
    }

    private static void goneInAlarm() {
        CHECK.part("if any fails, it is in ALARM: what is in the POOL, and of the BLOCK, is gone");
        NoiseWatch x = Check.heard(CALM + "block 4;out 16;", ONES.substring(1));
        counts("15 alike", x, 20, 3, 6, 6, 0, 0, 0);
        same("two are taken", x.take(2) >= 0 ? 1 : 0, 1);
        Check.hand(x, "1");
        counts("the 16th fills no BLOCK", x, 20, 0, 0, 6, 0, 2, 4);
        same("none to take", x.take(1), -1);
        same("none to see", x.pool(0), -1);
        NoiseWatch fresh = Check.heard(CALM + "block 17;out 16;", "0" + ONES);
        counts("an ALARM with the BLOCK's last one", fresh, 20, 0, 0, 0, 0, 0, 0);
        same("ALARM", fresh.count(9), 3);
        fresh.start();
        Check.hand(fresh, "01010011010100110");
        String alone = Check.pool(Check.heard(CALM + "block 17;out 16;", "01010011010100110"));
        same("the next BLOCK begins from 0", Check.pool(fresh), alone);
        same("it has bits", alone.length(), 12);
    }

    // ---- START

    private static void tillStart() {
        CHECK.part("It STARTS till START SAMPLES were listened to without ALARM; then it RUNS (by the next one");
        String mixed = repeated("0110100110010110", 13);
        for (int start : new int[] {1, 2, 3, 32, 199, 200}) {
            NoiseWatch x = Check.with("chance 8;log 40;start " + start + ";block 4;out 16;");
            x.start();
            counts("START " + start, x, 9, 1);
            Check.hand(x, mixed.substring(0, start - 1));
            counts("one less than " + start, x, 9, 1);
            Check.hand(x, mixed.substring(start - 1, start));
            counts("START " + start + " were", x, 9, 2);
            counts("none of them in the BLOCK", x, 20, 0, 0, 0);
            Check.hand(x, "1");
            counts("the next one is", x, 20, 1, 0, 0);
            Check.hand(x, "011");
            same("and no other is in the first BLOCK", Check.pool(x),
                Check.pool(Check.heard(CALM + "block 4;out 16;", "1011")));
        }
        CHECK.part("if START is 0, at once)");
        NoiseWatch x = Check.with(CALM + "block 4;");
        same("OFF", x.count(9), 0);
        x.start();
        same("RUNS", x.count(9), 2);
        Check.hand(x, "1");
        same("the first one is in the BLOCK", x.count(20), 1);
        CHECK.part("START SAMPLES were listened to without ALARM");
        NoiseWatch y = Check.with("chance 8;log 40;start 16;");
        y.start();
        Check.hand(y, ONES);
        counts("an ALARM with the last one of START", y, 9, 3, 1, 1);
        y.start();
        Check.hand(y, "0110100110010110".substring(1));
        counts("counted anew: 15", y, 9, 1);
        Check.hand(y, "0");
        counts("16", y, 9, 2);
        y.start();
        Check.hand(y, "01101001");
        y.start();
        Check.hand(y, "01101001");
        counts("8 and 8 are not 16", y, 9, 1);
        y.stop();
        y.start();
        counts("STARTS behind OFF", y, 9, 1);
    }

    // ---- the BLOCK and the POOL

    /** The register one SAMPLE at a time, as a text of 16 signs. */
    private static String register(String samples) {
        String register = "0000000000000000";
        String turned = "0001000000100001";
        for (char sample : samples.toCharArray()) {
            boolean unlike = register.charAt(0) != sample;
            String up = register.substring(1) + "0";
            StringBuilder next = new StringBuilder();
            for (int i = 0; i < 16; i++) {
                boolean turn = unlike && turned.charAt(i) == '1';
                next.append((up.charAt(i) == '1') != turn ? '1' : '0');
            }
            register = next.toString();
        }
        return register;
    }

    private static void registerOf16Bits() {
        CHECK.part("a register of 16 bits, 0 at the begin of each BLOCK: .. (what goes beyond is lost)");
        String mixed = repeated("1101000110010111001011101", 6);
        for (int block : new int[] {2, 3, 15, 16, 17, 18, 23, 31, 32, 33, 63, 64}) {
            NoiseWatch x = Check.with(CALM + "out 16;block " + block + ";");
            int yield = x.limit(3);
            same("YIELD", yield, Math.min(16, 72 * block / 100));
            x.start();
            Check.hand(x, mixed.substring(0, block - 1));
            counts("one less than BLOCK " + block, x, 20, block - 1, 0, 0);
            Check.hand(x, mixed.substring(block - 1, block));
            counts("BLOCK " + block, x, 20, 0, yield, yield);
            String first = register(mixed.substring(0, block)).substring(16 - yield);
            same("the lowest YIELD bits, the highest first", Check.pool(x), first);
            Check.hand(x, mixed.substring(block, 2 * block));
            same("the second BLOCK from 0 on", Check.pool(x),
                first + register(mixed.substring(block, 2 * block)).substring(16 - yield));
        }
        NoiseWatch none = Check.heard("chance 15;log 40;start 0;block 11;out 16;", "01101001100");
        counts("YIELD 0: nothing comes", none, 20, 0, 0, 0, 0);
        NoiseWatch one = Check.heard("chance 15;log 40;start 0;block 12;out 16;", "011010011001");
        counts("YIELD 1", one, 20, 0, 1, 1, 0);
        CHECK.part("0 at the begin of each BLOCK: what was of a BLOCK is gone by start()");
        NoiseWatch x = Check.heard(CALM + "block 6;out 16;", "11011");
        x.start();
        counts("gone", x, 20, 0, 0);
        Check.hand(x, "01101");
        counts("five anew", x, 20, 5, 0);
        Check.hand(x, "0");
        same("six anew", Check.pool(x), register("011010").substring(12));
    }

    private static void poolOf256() {
        CHECK.part("the POOL, which has 256 at most (what would be more is WASTED)");
        String three = "1101000110110100011010001110";
        NoiseWatch x = Check.with(CALM + "block 5;out 16;");
        x.start();
        for (int i = 0; i < 15; i++) {
            Check.hand(x, three);
        }
        counts("84 BLOCKS of 3 bits", x, 20, 0, 252, 252, 0, 0, 0);
        Check.hand(x, "01101");
        counts("85", x, 20, 0, 255, 255, 0, 0, 0);
        Check.hand(x, "1011");
        counts("still", x, 20, 4, 255, 255, 0, 0, 0);
        Check.hand(x, "0");
        counts("86: one comes, two are WASTED", x, 20, 0, 256, 256, 2, 0, 0);
        same("the highest of the three came", x.pool(255), register("10110").charAt(13) - '0');
        same("no more", x.pool(256), -1);
        Check.hand(x, "10100");
        counts("87: all WASTED", x, 20, 0, 256, 256, 5, 0, 0);
        x.take(2);
        counts("room for two", x, 20, 0, 254, 256, 5, 2, 0);
        Check.hand(x, "00110");
        counts("88: two come, one is WASTED", x, 20, 0, 256, 258, 6, 2, 0);
        same("the highest two", x.pool(254) + "" + x.pool(255), register("00110").substring(13, 15));
        x.start();
        counts("gone", x, 20, 0, 0, 258, 6, 2, 256);
        Check.hand(x, "10110");
        same("an empty POOL again", Check.pool(x), register("10110").substring(13));
    }

    /** More bits go through the POOL than any room that it could lie in. */
    private static void poolGoesRound() {
        CHECK.part("go behind what is in the POOL .. The first n bits of the POOL are taken: over and over");
        NoiseWatch x = Check.with(CALM + "block 16;out 16;");
        x.start();
        StringBuilder due = new StringBuilder();
        StringBuilder got = new StringBuilder();
        int state = 12345;
        for (int i = 0; i < 110; i++) {
            state = (state * 75 + 74) % 65537;
            String samples = Integer.toBinaryString(65536 | state & 32767 | 16384).substring(1).replace("0000", "0100");
            same("heard", Check.hand(x, samples), 16);
            due.append(register(samples).substring(5));
            if (i >= 20) {
                int bits = x.take(11);
                got.append(Integer.toBinaryString(2048 | bits).substring(1));
            }
        }
        counts("through", x, 20, 0, 220, 1210, 0, 990, 0);
        got.append(Check.pool(x));
        same("as they came", got.toString(), due.toString());
    }

    // ---- HISTORY and ROWS

    private static void latest400() {
        CHECK.part("HISTORY: the latest 400 SAMPLES that were listened to, over all STARTS");
        NoiseWatch x = Check.with(CALM + "bias 0;stuck 0 0 1;stuck 10 10 1;stuck 20 20 1;");
        x.start();
        x.draw(10);
        for (int i = 0; i < 28; i++) {
            x.start();
            x.draw(14);
        }
        same("402 DRAWN", x.count(13), 402);
        same("402 listened to", x.count(14), 402);
        same("400 of HISTORY", x.count(26), 400);
        same("two went: the 10th is the 8th", x.history(7) + "" + x.history(8) + "" + x.history(9), "010");
        same("the last", x.history(399), 0);
        same("no more", x.history(400), -1);
        NoiseWatch y = Check.with("chance 8;log 40;start 200;bias 0;stuck 0 0 1;stuck 9 9 1;stuck 399 400 1;");
        for (int i = 0; i < 44; i++) {
            y.start();
            y.draw(9);
        }
        y.draw(3);
        counts("399", y, 26, 399);
        same("the oldest one", y.history(0), 1);
        same("none yet", y.history(399), -1);
        y.draw(1);
        counts("400", y, 26, 400);
        same("the oldest one still", y.history(0), 1);
        same("the 400th", y.history(399), 1);
        y.draw(1);
        counts("401", y, 26, 400);
        same("the oldest one went", y.history(0), 0);
        same("the second is the first", y.history(8), 1);
        same("two 1 at the end", y.history(398) + y.history(399), 2);
        CHECK.part("HISTORY goes round: as DRAWN, however many there were");
        NoiseWatch z = Check.with("chance 15;log 40;seed 4;");
        z.start();
        int[] numbers = numbers(4, 5000);
        int heard = 0;
        for (int i = 0; i < 5; i++) {
            heard += z.draw(400);
        }
        same("no ALARM", heard, 2000);
        StringBuilder due = new StringBuilder();
        for (int i = 1600; i < 2000; i++) {
            due.append(numbers[2 * i + 1] < 8 ? 1 : 0);
        }
        same("the latest 400 of 2000", Check.history(z, 0), due.toString());
    }

    private static void rowsOf15() {
        CHECK.part("ROWS: for each time that it STARTS, the first 15 SAMPLES listened to since (as many as there were)");
        NoiseWatch x = Check.with(CALM);
        same("none at first", x.count(27), 0);
        x.start();
        same("a ROW of none", x.count(27), 1);
        same("it has none", Check.row(x, 0), "");
        Check.hand(x, "10110100101101");
        same("14", Check.row(x, 0), "10110100101101");
        Check.hand(x, "1");
        same("15", Check.row(x, 0), "101101001011011");
        Check.hand(x, "0");
        same("15 of 16", Check.row(x, 0), "101101001011011");
        x.stop();
        Check.hand(x, "1");
        x.start();
        same("two", x.count(27), 2);
        Check.hand(x, "01");
        same("the second", Check.row(x, 1), "01");
        same("the first stays", Check.row(x, 0), "101101001011011");
        NoiseWatch alarm = Check.heard("chance 8;log 2;window 4;start 0;", "0111");
        same("what came with an ALARM, too", Check.row(alarm, 0), "0111");
        alarm.hand(1, 1);
        same("nothing behind it", Check.row(alarm, 0), "0111");
        CHECK.part("the latest 15 ROWS, the oldest first");
        NoiseWatch y = Check.with(CALM);
        for (int i = 1; i <= 15; i++) {
            y.start();
            Check.hand(y, ONES.substring(0, i - 1));
            same(i + " ROWS", y.count(27), i);
        }
        same("the oldest of 15", Check.row(y, 0), "");
        same("the latest of 15", Check.row(y, 14), ONES.substring(2));
        y.start();
        same("15 still", y.count(27), 15);
        same("the oldest went", Check.row(y, 0), "1");
        same("the latest is empty", Check.row(y, 14), "");
        Check.hand(y, "0");
        same("it hears", Check.row(y, 14), "0");
        same("16 STARTS", y.count(12), 16);
        y.start();
        same("two went", Check.row(y, 0), "11");
        same("the one ahead", Check.row(y, 13), "0");
    }

    private static void toldAnew() {
        CHECK.part("On SETTINGS told anew all is as at first.");
        for (NoiseWatch x : new NoiseWatch[] {States.stopped(), States.starting(), States.running(), States.alarmed()}) {
            Check.tell(x, ";out 2;");
            same("told anew", x.settings(), 0);
            NoiseWatch fresh = Check.with("log 7;out 2;");
            CHECK.same("as at first", States.wholeButText(x), States.wholeButText(fresh));
        }
    }

    public static void main(String[] args) {
        of32Bits();
        lessThanStick();
        lessThanBias();
        stuckByNumber();
        doesNotListen();
        repeatFails();
        proportionFails();
        changeFails();
        toldInBits();
        goneInAlarm();
        tillStart();
        registerOf16Bits();
        poolOf256();
        poolGoesRound();
        latest400();
        rowsOf15();
        toldAnew();
        CHECK.end("WatchEdgesTest");
    }
}
