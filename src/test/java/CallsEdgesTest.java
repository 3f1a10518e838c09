/** The edges of what each act and each plain question is asked: promises 1, 5 to 10, 13 to 15. */
public final class CallsEdgesTest {
    private static final Check CHECK = new Check();
    private static final int LEAST = Integer.MIN_VALUE;
    private static final int MOST = Integer.MAX_VALUE;
    /** REPEATS 16, and no other TEST can fail. */
    private static final String CALM = "chance 8;log 40;start 0;";

    private static void same(String what, long got, long want) {
        CHECK.same(what, got, want);
    }

    private static void counts(String when, NoiseWatch x, int from, int... want) {
        for (int i = 0; i < want.length; i++) {
            same(when + ", count(" + (from + i) + ")", x.count(from + i), want[i]);
        }
    }

    private static void newObject() {
        CHECK.part("NoiseWatch(): SETTINGS as at first, OFF.");
        NoiseWatch x = new NoiseWatch();
        counts("new", x, 0, 10, 20, 15, 32, 16, 4, 8, 0, 0, 0);
        for (int what = 10; what <= 28; what++) {
            same("count(" + what + ")", x.count(what), 0);
        }
        String told = "chance 10;log 20;window 15;start 32;block 16;out 4;bias 8;stick 0;seed 1;";
        CHECK.same("as told so", States.whole(new NoiseWatch()), States.whole(Check.with(told)));
        x.start();
        x.draw(50);
        counts("one object is none of another", new NoiseWatch(), 12, 0, 0, 0);
    }

    private static void start() {
        CHECK.part("It STARTS, whatever it was (what is in the POOL, of the BLOCK is gone): how often it did.");
        NoiseWatch x = Check.with("chance 8;log 40;start 2;block 4;out 16;");
        same("OFF", x.start(), 1);
        same("STARTS", x.start(), 2);
        Check.hand(x, "01" + "1011" + "01");
        counts("RUNS", x, 9, 2);
        counts("in the BLOCK, in the POOL", x, 20, 2, 2, 2, 0, 0, 0);
        same("RUNS", x.start(), 3);
        counts("gone", x, 20, 0, 0, 2, 0, 0, 2);
        counts("STARTS", x, 9, 1);
        counts("none since", x, 15, 0, 0, 0, 0, 0);
        x.hand(0, 32);
        counts("ALARM", x, 9, 3, 1, 1);
        same("ALARM", x.start(), 4);
        counts("STARTS", x, 9, 1, 1, 1, 4);
        counts("none since", x, 15, 0, 0, 0, 0, 0);
        x.stop();
        same("OFF", x.start(), 5);
        same("HISTORY stays", x.count(26), 8 + 16);
        x.settings();
        same("told anew", x.start(), 1);
    }

    private static void stop() {
        CHECK.part("It is OFF (likewise): true. false: it is so already.");
        same("at first", new NoiseWatch().stop() ? 1 : 0, 0);
        NoiseWatch x = Check.with("chance 8;log 40;start 2;block 4;out 16;");
        x.start();
        same("STARTS", x.stop() ? 1 : 0, 1);
        same("already", x.stop() ? 1 : 0, 0);
        x.start();
        Check.hand(x, "01" + "1011" + "01");
        counts("in the BLOCK, in the POOL", x, 20, 2, 2, 2, 0, 0, 0);
        same("RUNS", x.stop() ? 1 : 0, 1);
        counts("OFF", x, 9, 0, 0, 0, 2);
        counts("gone", x, 20, 0, 0, 2, 0, 0, 2);
        counts("OFF: 0", x, 16, 0, 0, 0, 0);
        same("HISTORY stays", x.count(26), 8);
        same("ROWS stay", x.count(27), 2);
        same("already", x.stop() ? 1 : 0, 0);
        x.start();
        x.hand(0, 32);
        counts("as they were at the ALARM", x, 16, 16, 1, 1, 0);
        same("ALARM", x.stop() ? 1 : 0, 1);
        counts("OFF", x, 9, 0, 1, 1, 3);
        counts("OFF: 0", x, 16, 0, 0, 0, 0);
        NoiseWatch once = States.stopped();
        NoiseWatch twice = States.stopped();
        same("refused", twice.stop() ? 1 : 0, 0);
        CHECK.same("nothing changes", States.whole(twice), States.whole(once));
    }

    private static void draw() {
        CHECK.part("So many SAMPLES are DRAWN, 1 to 400 .. NONE: another number.");
        for (int n : new int[] {LEAST, -400, -1, 0, 401, 402, MOST}) {
            States.refused(CHECK, "draw(" + n + ")", x -> x.draw(n));
        }
        for (int n : new int[] {1, 2, 399, 400}) {
            NoiseWatch x = Check.with("chance 15;log 40;seed 4;");
            same("OFF, draw(" + n + ")", x.draw(n), 0);
            same("DRAWN", x.count(13), n);
            x.start();
            same("draw(" + n + ")", x.draw(n), n);
            counts("DRAWN and listened to", x, 13, 2 * n, n, n);
        }
        CHECK.part("how many of them it listened to");
        NoiseWatch x = Check.with(CALM + "bias 16;");
        x.start();
        same("15 of 15", x.draw(15), 15);
        same("the one with the ALARM, too", x.draw(9), 1);
        counts("all were DRAWN", x, 13, 24, 16, 16);
        same("none in ALARM", x.draw(400), 0);
        x.start();
        same("16 of 400", x.draw(400), 16);
        counts("all were DRAWN", x, 13, 824, 32, 16);
    }

    private static void hand() {
        CHECK.part("the n lowest bits, 1 to 32, the highest of these first .. NONE: another n.");
        for (int n : new int[] {LEAST, -32, -1, 0, 33, 34, 64, MOST}) {
            States.refused(CHECK, "hand(5, " + n + ")", x -> x.hand(5, n));
            States.refused(CHECK, "hand(-1, " + n + ")", x -> x.hand(-1, n));
        }
        for (int n = 1; n <= 32; n++) {
            for (int bits : new int[] {0x5a3c9671, 0xa5c3698e, LEAST | 0x5555555, MOST & 0x6db6db6d}) {
                NoiseWatch x = Check.with(CALM);
                x.start();
                same("hand(" + bits + ", " + n + ")", x.hand(bits, n), n);
                String all = Long.toBinaryString(1L << 32 | bits & 0xffffffffL).substring(1);
                CHECK.same("the lowest " + n, Check.history(x, 0), all.substring(32 - n));
                same("none is DRAWN", x.count(13), 0);
            }
        }
        CHECK.part("how many of them it listened to");
        NoiseWatch x = Check.with(CALM);
        same("OFF", x.hand(7, 3), 0);
        x.start();
        same("15 of 15", x.hand(0, 15), 15);
        same("the one with the ALARM, too", x.hand(0, 15), 1);
        same("none in ALARM", x.hand(5, 32), 0);
        x.start();
        same("16 of 32", x.hand(-1, 32), 16);
        x.start();
        same("2 and 16 of 32: 01 and zeros", x.hand(1 << 30, 32), 18);
    }

    private static NoiseWatch pooled() {
        return Check.heard(CALM + "block 16;out 16;", "1010110011110001" + "0110100110010110" + "1101000110010111");
    }

    private static void take() {
        CHECK.part("The first n bits of the POOL are taken, 1 to 30: as a number, the first one highest.");
        for (int n : new int[] {LEAST, -30, -1, 0, 31, 32, 33, MOST}) {
            States.refused(CHECK, "take(" + n + ")", x -> x.take(n));
            NoiseWatch x = pooled();
            same("take(" + n + ") of 33", x.take(n), -1);
            CHECK.same("none is taken", States.whole(x), States.whole(pooled()));
        }
        String all = Check.pool(pooled());
        same("33 bits", all.length(), 33);
        for (int n = 1; n <= 30; n++) {
            NoiseWatch x = pooled();
            same("take(" + n + ")", x.take(n), Integer.parseInt(all.substring(0, n), 2));
            CHECK.same("the others stay", Check.pool(x), all.substring(n));
            counts("TAKEN", x, 21, 33 - n, 33, 0, n, 0);
        }
        CHECK.part("take, NONE: .. there are not so many (none is taken).");
        NoiseWatch x = pooled();
        x.take(30);
        same("4 of 3", x.take(4), -1);
        counts("none is taken", x, 21, 3, 33, 0, 30, 0);
        CHECK.same("none is taken", Check.pool(x), all.substring(30));
        same("3 of 3", x.take(3), Integer.parseInt(all.substring(30), 2));
        same("1 of none", x.take(1), -1);
        counts("all are", x, 21, 0, 33, 0, 33, 0);
        same("1 of a new one", new NoiseWatch().take(1), -1);
        NoiseWatch ones = Check.heard(CALM + "block 2;out 16;", "101101100110");
        CHECK.same("the lowest of a register of two", Check.pool(ones), "011010");
        same("30 of 6", ones.take(30), -1);
        same("7 of 6", ones.take(7), -1);
        same("6 of 6", ones.take(6), 26);
    }

    private static void count() {
        CHECK.part("count: .. NONE for another what");
        for (int what : new int[] {LEAST, -29, -1, 29, 30, 32, 256, MOST}) {
            States.refused(CHECK, "count(" + what + ")", x -> x.count(what));
        }
        CHECK.part("count, each what: all of them unlike one another");
        NoiseWatch x = States.running();
        Check.tell(x, "8;");
        same("8 and 27", x.count(8) + x.count(27), 1 + 2);
        counts("SETTINGS", x, 0, 9, 40, 15, 3, 5, 9, 9, 3, 1, 2, 0, 0, 2);
        counts("SAMPLES", x, 13, 90, 90, 70);
        same("in the WINDOW: 70 of 15", x.count(17), 10);
        same("in the BLOCK: 67 of 5", x.count(20), 2);
        counts("YIELD 3, 13 BLOCKS behind 3", x, 21, 37, 39 + 9, 0, 2, 9, 90, 2, 7);
        CHECK.part("16: how many are alike now, this one the last (0: none since it STARTS, or OFF)");
        NoiseWatch y = Check.with(CALM);
        same("OFF", y.count(16), 0);
        y.start();
        same("none since", y.count(16), 0);
        Check.hand(y, "0");
        same("one", y.count(16), 1);
        Check.hand(y, "0");
        same("two", y.count(16), 2);
        Check.hand(y, "1");
        same("one again", y.count(16), 1);
        y.start();
        same("none since", y.count(16), 0);
        Check.hand(y, "1");
        same("one since", y.count(16), 1);
        CHECK.part("(16 to 19 of ALARM: as they were at it; OFF: 0.)");
        NoiseWatch z = Check.heard("chance 8;log 2;window 4;start 0;", "1100" + "100" + "1");
        counts("no ALARM", z, 9, 2);
        counts("a full WINDOW", z, 16, 1, 4, 2, 2);
        Check.hand(z, "11");
        counts("ALARM", z, 9, 3, 1);
        counts("as they were at it", z, 16, 3, 2, 2, 0);
        z.draw(5);
        z.hand(0, 5);
        counts("still", z, 16, 3, 2, 2, 0);
        z.stop();
        counts("OFF: 0", z, 16, 0, 0, 0, 0);
        NoiseWatch full = Check.heard("log 6;start 0;", "111111101111111");
        counts("an ALARM with a WINDOW's last one", full, 9, 3, 2);
        counts("as they were at it", full, 16, 7, 15, 14, 2);
        CHECK.part("15: those since it STARTS");
        NoiseWatch s = Check.heard(CALM, "0110");
        same("four", s.count(15), 4);
        s.start();
        same("none", s.count(15), 0);
        Check.hand(s, "01");
        counts("two of six", s, 14, 6, 2);
        CHECK.part("25: gone by ALARMS, start(), stop()");
        NoiseWatch g = Check.heard(CALM + "block 2;", "0110");
        g.start();
        same("start()", g.count(25), 2);
        Check.hand(g, "011");
        g.stop();
        same("stop()", g.count(25), 3);
        g.start();
        g.hand(0x1ffff, 18);
        same("an ALARM: 0 and 16 of 17 ones", g.count(25), 3 + 8);
        same("ALARM", g.count(9), 3);
        g.start();
        same("none more", g.count(25), 11);
    }

    private static void history() {
        CHECK.part("The k-th SAMPLE of HISTORY, the oldest first. NONE: not so many.");
        NoiseWatch none = new NoiseWatch();
        same("none", none.history(0), -1);
        NoiseWatch x = Check.heard(CALM, "011");
        same("0", x.history(0), 0);
        same("2", x.history(2), 1);
        same("3", x.history(3), -1);
        same("-1", x.history(-1), -1);
        for (int k : new int[] {LEAST, -512, -1, 400, 511, 512, MOST}) {
            States.refused(CHECK, "history(" + k + ")", y -> y.history(k));
        }
    }

    private static void pool() {
        CHECK.part("The k-th bit of the POOL, that which would be taken first ahead. NONE: not so many.");
        same("none", new NoiseWatch().pool(0), -1);
        NoiseWatch x = pooled();
        String all = Check.pool(x);
        same("32", x.pool(32), all.charAt(32) - '0');
        same("33", x.pool(33), -1);
        same("-1", x.pool(-1), -1);
        for (int taken = 1; taken <= 33; taken++) {
            same("taken first", x.pool(0), all.charAt(taken - 1) - '0');
            same("taken", x.take(1), all.charAt(taken - 1) - '0');
            same("no more", x.pool(33 - taken), -1);
        }
        for (int k : new int[] {LEAST, -256, -1, 256, 257, 512, MOST}) {
            States.refused(CHECK, "pool(" + k + ")", y -> y.pool(k));
        }
    }

    private static void row() {
        CHECK.part("The i-th SAMPLE of a ROW, or (many) how many it has (whatever i). NONE: there is none such.");
        same("no ROW", new NoiseWatch().row(0, 0, false), -1);
        same("no ROW, many", new NoiseWatch().row(0, 0, true), -1);
        NoiseWatch x = Check.heard(CALM, "011");
        x.start();
        for (int i : new int[] {LEAST, -1, 0, 2, 3, 15, MOST}) {
            same("many, whatever " + i, x.row(0, i, true), 3);
            same("many of none, whatever " + i, x.row(1, i, true), 0);
            same("many of no ROW", x.row(2, i, true), -1);
        }
        same("first", x.row(0, 0, false), 0);
        same("last", x.row(0, 2, false), 1);
        same("3 of 3", x.row(0, 3, false), -1);
        same("-1", x.row(0, -1, false), -1);
        same("of none", x.row(1, 0, false), -1);
        for (int row : new int[] {LEAST, -1, 15, 16, MOST}) {
            States.refused(CHECK, "row(" + row + ", 0, false)", y -> y.row(row, 0, false));
            States.refused(CHECK, "row(" + row + ", 0, true)", y -> y.row(row, 0, true));
        }
        for (int i : new int[] {LEAST, -1, 15, 16, 32, 33, MOST}) {
            States.refused(CHECK, "row(0, " + i + ", false)", y -> y.row(0, i, false));
        }
    }

    private static void calls512() {
        CHECK.part("An object is used for at most 512 calls after it has been made");
        NoiseWatch drawn = Check.with("chance 15;log 40;seed 4;");
        drawn.start();
        for (int i = 0; i < 500; i++) {
            drawn.draw(400);
        }
        same("all DRAWN", drawn.count(13), 200000);
        NoiseWatch started = new NoiseWatch();
        for (int i = 1; i <= 511; i++) {
            same("STARTS", started.start(), i);
        }
        same("the 512th call", started.count(12), 511);
        NoiseWatch told = new NoiseWatch();
        for (int i = 1; i <= 37; i++) {
            told.tell(0x2020202020202020L);
        }
        for (int i = 38; i <= 511; i++) {
            same("no room", told.tell(0x2020202020202020L), -1);
        }
        same("the 512th call", told.count(28), 296);
        NoiseWatch taken = Check.with(CALM + "block 16;out 16;");
        taken.start();
        for (int i = 0; i < 240; i++) {
            same("11 bits come", taken.hand(0x6996d3a5, 16), 16);
            same("11 are taken", taken.take(11) >= 0 ? 1 : 0, 1);
        }
        counts("all were taken", taken, 20, 0, 0, 2640, 0, 2640, 0);
    }

    public static void main(String[] args) {
        newObject();
        calls512();
        start();
        stop();
        draw();
        hand();
        take();
        count();
        history();
        pool();
        row();
        CHECK.end("CallsEdgesTest");
    }
}
