import java.util.NoSuchElementException;

/** Each promise by its number, with answers worked out by hand from the document. */
public final class PromisesTest {
    private static final Check CHECK = new Check();
    /** REPEATS 3, PROPORTION 4, CHANGES 3, YIELD 1. */
    private static final String TIGHT = "chance 8;log 2;window 4;start 0;block 2;out 4;";
    /** REPEATS 16, and no other TEST can fail. */
    private static final String CALM = "chance 8;log 40;start 0;";

    private static void same(String what, long got, long want) {
        CHECK.same(what, got, want);
    }

    private static void same(String what, boolean got, boolean want) {
        CHECK.same(what, got, want);
    }

    private static void counts(String when, NoiseWatch x, int from, int... want) {
        for (int i = 0; i < want.length; i++) {
            same(when + ", count(" + (from + i) + ")", x.count(from + i), want[i]);
        }
    }

    private static NoiseWatch heard(String settings, String samples) {
        NoiseWatch x = Check.with(settings);
        x.start();
        same("listened to", Check.hand(x, samples), samples.length());
        return x;
    }

    private static String drawn(NoiseWatch x, int n) {
        int before = x.count(26);
        x.draw(n);
        StringBuilder text = new StringBuilder();
        for (int k = before; k < x.count(26); k++) {
            text.append(x.history(k));
        }
        return text.toString();
    }

    private static String pooled(NoiseWatch x) {
        StringBuilder text = new StringBuilder();
        for (int k = 0; x.pool(k) != NoiseWatch.NONE; k++) {
            text.append(x.pool(k));
        }
        return text.toString();
    }

    private static void texts(String what, String got, String want) {
        same(what + ": " + got + ", due is " + want, got.equals(want), true);
    }

    private static void newObject() {
        NoiseWatch x = new NoiseWatch();
        counts("new", x, 0, 10, 20, 15, 32, 16, 4, 8, 0, 0, 0, 0, 0, 0, 0, 0, 0, 0, 0, 0, 0, 0, 0, 0, 0, 0, 0, 0, 0, 0);
        same("fault", x.fault(false), 0);
        same("place", x.fault(true), -1);
        same("quiet", x.quiet(), -1);
        x.start();
        texts("seed 1", drawn(x, 40), "0000100100111000101010001011000110011000");
    }

    private static void tell() {
        NoiseWatch x = new NoiseWatch();
        same("nothing", x.tell(0L), 0);
        same("none behind a 0", x.tell(0x6162006364000000L), 2);
        same("a 0 first", x.tell(0x0061626364656667L), 2);
        same("eight", x.tell(0x2020202020202020L), 10);
        same("high bytes", x.tell(0xffffffffffffffffL), 18);
        for (int i = 0; i < 35; i++) {
            same("more", x.tell(0x2020202020202020L), 26 + 8 * i);
        }
        same("full by two", x.tell(0x2020202020000000L), -1);
        same("still", x.count(28), 298);
        same("two", x.tell(0x2020000000000000L), 300);
        same("one more", x.tell(0x2000000000000000L), -1);
        same("none more", x.tell(0L), 300);
        same("read", x.settings(), -1);
        same("empty", x.count(28), 0);
    }

    private static void settings() {
        NoiseWatch x = new NoiseWatch();
        Check.tell(x, "chance 15;log40 ;window\n4; start 200 ;block 64;out 16;bias 16;stick 15;seed 9999;stuck 0 9999 1;");
        same("settings", x.settings(), 1);
        counts("all", x, 0, 15, 40, 4, 200, 64, 16, 16, 15, 1, 0);
        x.start();
        x.draw(3);
        Check.tell(x, "log 3;log 4;stuck 1 1 0;stuck 1 1 0;");
        same("later ones strike, stuck are further ones", x.settings(), 2);
        counts("anew", x, 0, 10, 4, 15, 32, 16, 4, 8, 0, 2, 0, 0, 0, 0, 0, 0, 0);
        same("history is gone", x.count(26), 0);
        x.start();
        x.draw(5);
        Check.tell(x, "log 41;");
        same("a fault", x.settings(), -1);
        counts("all stays", x, 13, 5, 5, 5);
        same("log stays", x.count(1), 4);
        same("the text does not", x.count(28), 0);
        same("nothing told", x.settings(), 0);
        counts("as at first", x, 0, 10, 20, 15, 32, 16, 4, 8, 0, 0, 0, 0, 0, 0, 0, 0, 0);
        same("an empty text is no fault", x.fault(false), 0);
        Check.tell(x, "seed 0;");
        x.settings();
        x.start();
        same("seed 0 draws", x.draw(1), 1);
        NoiseWatch busy = busy();
        busy.image(0);
        Check.tell(busy, " 20;");
        same("of a busy one", busy.settings(), 0);
        texts("all is as at first", all(busy), all(new NoiseWatch()));
    }

    private static void faulty(String text, int fault, int place) {
        NoiseWatch x = new NoiseWatch();
        Check.tell(x, text);
        same("settings of " + text, x.settings(), fault == 0 ? x.count(8) : -1);
        same("fault of " + text, x.fault(false), fault);
        same("place of " + text, x.fault(true), place);
    }

    private static void fault() {
        faulty("", 0, -1);
        faulty(" \n ", 0, -1);
        faulty("chance8;out0016;", 0, -1);
        faulty("noise 1;", 1, 0);
        faulty("  chancelog 1;", 1, 2);
        faulty("chance", 1, 6);
        faulty("chance ", 1, 7);
        faulty("chance 8", 1, 8);
        faulty("chance ;", 1, 7);
        faulty("chance 8 9;", 1, 9);
        faulty("chance 8;;", 1, 9);
        faulty("8;", 1, 0);
        faulty("chance 00008;", 1, 7);
        faulty("chance 8;seed 10000;", 1, 14);
        faulty("chance 8;\tlog 2;", 1, 9);
        faulty("Chance 8;", 1, 0);
        faulty("chance -8;", 1, 7);
        faulty("log 2;\u00e9", 1, 6);
        faulty("stuck 1 2;", 1, 9);
        faulty("stuck 1 2 1 1;", 1, 12);
        faulty("chance 7;log 0;noise", 1, 15);
        faulty("out 4window;", 1, 5);
        faulty("outz 4;", 1, 0);
        faulty("aout 4;", 1, 0);
        faulty("chance`8;", 1, 6);
        faulty("chance{8;", 1, 6);
        faulty("chance 8/9;", 1, 8);
        faulty("chance 9:;", 1, 8);
        faulty("out 0004;out 0009;", 0, -1);
        faulty("chance 7;", 2, 7);
        faulty("chance 16;", 2, 7);
        faulty("log 0;", 2, 4);
        faulty("log 41;", 2, 4);
        faulty("window 3;", 2, 7);
        faulty("window 16;", 2, 7);
        faulty("start 201;", 2, 6);
        faulty("block 1;", 2, 6);
        faulty("block 65;", 2, 6);
        faulty("out 0;", 2, 4);
        faulty("out 17;", 2, 4);
        faulty("bias 17;", 2, 5);
        faulty("stick 16;", 2, 6);
        faulty("log 2;chance 99;log 99;", 2, 13);
        faulty("stuck 5 4 2;", 2, 8);
        faulty("stuck 5 5 2;", 2, 10);
        faulty("stuck 0 9999 1;stuck 0 0 0;stuck 9999 9999 1;stuck 3 4 0;", 0, -1);
        String four = "stuck 1 1 1;stuck 1 1 1;stuck 1 1 1;stuck 1 1 1;";
        faulty(four + "stuck 1 1 1;", 3, 48);
        faulty(four + "stuck 5 1 1;stuck 1 1 1;", 3, 48);
        faulty(four + "log 0;stuck 1 1 1;", 2, 52);
        faulty(four + "stuck 1 1 1", 1, 59);
        NoiseWatch x = new NoiseWatch();
        Check.tell(x, "log 0;");
        x.settings();
        x.start();
        x.draw(10);
        same("a fault stays till the next settings()", x.fault(false), 2);
        x.settings();
        same("none more", x.fault(false), 0);
        same("nor a place", x.fault(true), -1);
    }

    private static void start() {
        NoiseWatch x = Check.with(CALM + "block 4;out 16;start 3;");
        same("first", x.start(), 1);
        same("STARTS", x.count(9), 1);
        Check.hand(x, "011");
        same("RUNS behind START SAMPLES", x.count(9), 2);
        same("none of them in the BLOCK", x.count(20), 0);
        Check.hand(x, "101101");
        counts("runs", x, 20, 2, 2, 2, 0, 0, 0);
        same("anew", x.start(), 2);
        counts("gone", x, 20, 0, 0, 2, 0, 0, 2);
        counts("counted anew", x, 14, 9, 0, 0, 0, 0, 0);
        same("STARTS again", x.count(9), 1);
        NoiseWatch y = Check.with(TIGHT);
        y.start();
        same("RUNS at once, if START is 0", y.count(9), 2);
        Check.hand(y, "000");
        same("ALARM", y.count(9), 3);
        same("out of an ALARM", y.start(), 2);
        same("RUNS again", y.count(9), 2);
        same("what failed last stays", y.count(10), 1);
        NoiseWatch z = Check.with("chance 8;log 2;window 4;start 3;");
        z.start();
        Check.hand(z, "00");
        same("it still STARTS", z.count(9), 1);
        Check.hand(z, "0");
        same("an ALARM by the last one of START", z.count(9), 3);
    }

    private static void stop() {
        NoiseWatch x = Check.with(CALM + "block 4;out 16;");
        same("OFF already", x.stop(), false);
        x.start();
        Check.hand(x, "101101");
        counts("runs", x, 20, 2, 2);
        same("stops", x.stop(), true);
        same("OFF", x.count(9), 0);
        counts("gone", x, 20, 0, 0, 2, 0, 0, 2);
        counts("none OFF", x, 16, 0, 0, 0, 0);
        same("since it STARTS", x.count(15), 6);
        same("HISTORY stays", x.count(26), 6);
        same("again", x.stop(), false);
        Check.tell(x, TIGHT);
        x.settings();
        x.start();
        Check.hand(x, "000");
        same("out of an ALARM", x.stop(), true);
        same("ALARMS stay", x.count(11), 1);
        counts("none OFF", x, 16, 0, 0, 0, 0);
    }

    private static void draw() {
        NoiseWatch x = new NoiseWatch();
        same("0", x.draw(0), -1);
        same("401", x.draw(401), -1);
        same("-1", x.draw(-1), -1);
        same("none was", x.count(13), 0);
        same("OFF", x.draw(5), 0);
        same("they were", x.count(13), 5);
        x.start();
        same("listens", x.draw(400), 400);
        counts("drawn", x, 13, 405, 400);
        texts("behind five unheard", drawn(Check.with(""), 5), "");
        NoiseWatch low = Check.with("bias 0;start 0;");
        low.start();
        same("16 alike are an ALARM, behind it none is heard", low.draw(30), 16);
        same("but drawn", low.count(13), 30);
        NoiseWatch high = Check.with("bias 16;start 0;");
        high.start();
        texts("bias 16", drawn(high, 15), "111111111111111");
        NoiseWatch stick = Check.with("seed 7;stick 8;");
        stick.start();
        texts("stick 8", drawn(stick, 40), "0000001111111110000111111000000011011111");
        NoiseWatch stuck = Check.with("seed 7;stick 8;stuck 3 6 1;stuck 5 5 0;");
        stuck.start();
        texts("stuck", drawn(stuck, 12), "000110111111");
        NoiseWatch held = Check.with("seed 3;stick 15;stuck 2 2 1;bias 0;");
        held.start();
        texts("it sticks to what was stuck", drawn(held, 6), heldBySticking());
        NoiseWatch last = Check.with("seed 9999;");
        last.start();
        texts("seed 9999", drawn(last, 40), "0100010000000110011111100101110001011011");
        NoiseWatch told = Check.with("seed 7;stick 8;");
        told.start();
        Check.hand(told, "1");
        texts("SAMPLES by hand are not DRAWN ones", drawn(told, 6), "000000");
    }

    /** With BIAS 0 and STICK 15 a 1 comes only by sticking: worked out by the numbers alone. */
    private static String heldBySticking() {
        int x = 3;
        int last = 0;
        StringBuilder text = new StringBuilder();
        for (int i = 0; i < 6; i++) {
            x = x * 1103515245 + 12345;
            if ((x >>> 16) % 16 >= 15) {
                x = x * 1103515245 + 12345;
                last = 0;
            }
            last = i == 2 ? 1 : last;
            text.append(last);
        }
        return text.toString();
    }

    private static void hand() {
        NoiseWatch x = new NoiseWatch();
        same("OFF", x.hand(5, 3), 0);
        x.start();
        same("0", x.hand(1, 0), -1);
        same("33", x.hand(1, 33), -1);
        same("-1", x.hand(1, -1), -1);
        same("three", x.hand(0xfffffff4, 3), 3);
        texts("the highest first", "" + x.history(0) + x.history(1) + x.history(2), "100");
        same("32", x.hand(0x80000001, 1), 1);
        same("the lowest", x.history(3), 1);
        same("none was DRAWN", x.count(13), 0);
        x.start();
        same("all of 32", x.hand(0xaaaaaaaa, 32), 32);
        same("the top bit first", x.history(4), 1);
        x.start();
        same("an ALARM ends listening", x.hand(0, 32), 16);
    }

    private static void watch() {
        NoiseWatch x = Check.with(TIGHT);
        x.start();
        Check.hand(x, "110");
        counts("110", x, 9, 2, 0, 0, 1, 0, 3, 3, 1, 3, 2, 1);
        Check.hand(x, "0");
        counts("a full WINDOW stays", x, 16, 2, 4, 2, 1);
        Check.hand(x, "1");
        counts("the next one", x, 16, 1, 1, 1, 0);
        Check.hand(x, "010");
        counts("three changes", x, 9, 3, 4, 1);
        counts("as they were at it", x, 16, 1, 4, 2, 3);
        counts("the BLOCK and the POOL are gone", x, 20, 0, 0, 3, 0, 0, 3);
        same("it does not listen", x.hand(0, 5), 0);
        NoiseWatch y = heard(TIGHT, "1001");
        Check.hand(y, "11");
        counts("alike across WINDOWS", y, 9, 3, 1);
        counts("at it", y, 16, 3, 2, 2, 0);
        NoiseWatch z = heard("chance 8;log 1;window 4;start 0;", "1");
        Check.hand(z, "1");
        counts("REPEAT 2", z, 9, 3, 1);
        NoiseWatch both = heard("chance 8;log 3;window 4;start 0;", "000");
        Check.hand(both, "0");
        counts("REPEAT and PROPORTION", both, 9, 3, 3);
        NoiseWatch half = heard("chance 8;log 1;window 4;start 0;", "01");
        Check.hand(half, "0");
        counts("CHANGE 2", half, 9, 3, 4);
        NoiseWatch part = heard("chance 9;log 1;window 4;start 0;", "0110");
        counts("CHANGE 2 of the 4th", part, 9, 3, 4);
        NoiseWatch ahead = heard("chance 8;log 2;window 4;start 0;", "1100" + "1001");
        counts("a change between WINDOWS is none of either", ahead, 16, 1, 4, 2, 2);
        same("it RUNS", ahead.count(9), 2);
    }

    private static void take() {
        NoiseWatch x = heard(CALM + "block 16;out 16;", "1010110011110001");
        texts("YIELD bits, the highest first", pooled(x), "11100101101");
        same("0", x.take(0), -1);
        same("31", x.take(31), -1);
        same("12", x.take(12), -1);
        same("none is taken", x.count(21), 11);
        same("3", x.take(3), 7);
        same("4", x.take(4), 2);
        same("4", x.take(4), 13);
        same("1", x.take(1), -1);
        counts("taken", x, 20, 0, 0, 11, 0, 11, 0);
        NoiseWatch few = heard(CALM + "block 4;out 16;", "1011" + "0000" + "101");
        texts("each BLOCK from 0", pooled(few), "1100");
        NoiseWatch out = heard(CALM + "block 16;out 2;", "1010110011110001");
        texts("OUT at most", pooled(out), "01");
        NoiseWatch none = heard("chance 15;log 40;start 0;block 2;out 16;", "10101010");
        counts("nothing earned", none, 20, 0, 0, 0, 0);
        NoiseWatch full = Check.with(CALM + "block 2;seed 5;");
        full.start();
        same("calm", full.draw(400) + full.draw(400), 800);
        counts("full", full, 20, 0, 256, 256, 144, 0, 0);
        int first = full.take(30);
        same("30 bits", first >= 0 && first < 1 << 30, true);
        counts("room", full, 20, 0, 226, 256, 144, 30, 0);
        full.draw(2);
        counts("more", full, 20, 0, 227, 257, 144, 30, 0);
        full.stop();
        counts("gone", full, 20, 0, 0, 257, 144, 30, 227);
    }

    private static void count() {
        NoiseWatch x = new NoiseWatch();
        same("-1", x.count(-1), -1);
        same("29", x.count(29), -1);
        same("least", x.count(Integer.MIN_VALUE), -1);
        same("most", x.count(Integer.MAX_VALUE), -1);
        x.tell(0x6161610000000000L);
        same("bytes", x.count(28), 3);
        x.start();
        x.draw(20);
        counts("20 drawn", x, 9, 1, 0, 0, 1, 20, 20, 20, 1, 5, 3, 4);
        for (int i = 0; i < 20; i++) {
            x.start();
        }
        same("ROWS", x.count(27), 15);
        same("STARTS", x.count(12), 21);
        x.draw(400);
        same("HISTORY", x.count(26), 400);
        same("listened", x.count(14), 420);
    }

    private static void limitRefused(NoiseWatch x, int what) {
        boolean refused = false;
        try {
            x.limit(what);
        } catch (NoSuchElementException none) {
            refused = true;
        }
        same("limit(" + what + ") throws", refused, true);
    }

    private static void limits(String settings, int... want) {
        NoiseWatch x = Check.with(settings);
        for (int i = 0; i < 5; i++) {
            same(settings + " limit(" + i + ")", x.limit(i), want[i]);
        }
        for (int i = 5; i < want.length; i++) {
            same(settings + " limit(" + (i + 6) + ")", x.limit(i + 6), want[i]);
        }
    }

    private static void limit() {
        limits("", 16, 16, 15, 4, 54, 2, 3, 4, 5, 6, 7, 8, 9, 10, 11, 12, 13, 14, 15, 16);
        limits(TIGHT, 3, 4, 3, 1, 72, 2, 2, 3, 4, 4, 5, 5, 6, 7, 7, 8, 8, 9, 9, 10);
        limits("chance 8;log 1;window 4;", 2, 3, 2, 4, 72, 1, 2, 2, 3, 3, 4, 4, 5, 5, 6, 6, 7, 7, 8, 8);
        limits("chance 8;log 14;out 16;", 15, 15, 14, 11, 72, 2, 3, 4, 5, 6, 7, 8, 9, 10, 11, 12, 13, 14, 14, 15);
        limits("chance 8;log 15;", 16, 16, 15, 4, 72);
        limits("log 6;", 10, 14, 12, 4, 54, 2, 3, 4, 5, 6, 7, 8, 9, 9, 10, 11, 12, 13, 13, 14);
        limits("chance 15;log 40;block 64;out 16;", 16, 16, 15, 5, 9);
        limits("chance 15;block 11;", 16, 16, 15, 0, 9);
        limits("chance 15;block 12;", 16, 16, 15, 1, 9);
        limits("chance 8;block 64;out 16;", 16, 16, 15, 16, 72);
        NoiseWatch x = new NoiseWatch();
        for (int what : new int[] {-1, 5, 9, 10, 26, Integer.MIN_VALUE, Integer.MAX_VALUE}) {
            limitRefused(x, what);
        }
    }

    private static void odds() {
        NoiseWatch x = new NoiseWatch();
        same("can not", x.odds(0, false), 0);
        same("can not", x.odds(0, true), 1);
        same("can not", x.odds(1, false), 0);
        same("can not", x.odds(1, true), 1);
        same("2", x.odds(2, false), -1);
        same("-1", x.odds(-1, true), -1);
        NoiseWatch y = Check.with("log 6;");
        same("above", y.odds(0, false), 57373046875L);
        same("below", y.odds(0, true), 4398046511104L);
        same("above", y.odds(1, false), 53);
        same("below", y.odds(1, true), 8192);
        NoiseWatch z = Check.with("chance 9;log 1;window 4;");
        same("above", z.odds(0, false), 729);
        same("below", z.odds(0, true), 4096);
        same("above", z.odds(1, false), 1);
        same("below", z.odds(1, true), 2);
    }

    private static void history() {
        NoiseWatch x = new NoiseWatch();
        same("none", x.history(0), -1);
        x.start();
        Check.hand(x, "1101");
        texts("the oldest first", "" + x.history(0) + x.history(1) + x.history(2) + x.history(3), "1101");
        same("-1", x.history(-1), -1);
        same("4", x.history(4), -1);
        x.start();
        Check.hand(x, "0");
        same("over all STARTS", x.history(4), 0);
        x.stop();
        Check.hand(x, "1");
        same("not what it did not listen to", x.history(5), -1);
        x.start();
        x.draw(397);
        texts("the latest 400", "" + x.history(0) + x.history(1) + x.history(2) + x.history(3), "0100");
        same("400", x.history(400), -1);
        NoiseWatch y = heard(TIGHT, "111");
        same("what came with the ALARM, too", y.history(2), 1);
    }

    private static void pool() {
        NoiseWatch x = heard(CALM + "block 4;out 16;", "1011" + "0000" + "1011");
        texts("pool", pooled(x), "110011");
        same("-1", x.pool(-1), -1);
        same("6", x.pool(6), -1);
        x.take(1);
        texts("pool", pooled(x), "10011");
        same("5", x.pool(5), -1);
        x.start();
        same("none", x.pool(0), -1);
    }

    private static void row() {
        NoiseWatch x = new NoiseWatch();
        same("none", x.row(0, 0, true), -1);
        x.start();
        same("empty", x.row(0, 99, true), 0);
        same("no SAMPLE", x.row(0, 0, false), -1);
        Check.hand(x, "1001");
        same("many", x.row(0, -5, true), 4);
        texts("row", "" + x.row(0, 0, false) + x.row(0, 1, false) + x.row(0, 2, false) + x.row(0, 3, false), "1001");
        same("4", x.row(0, 4, false), -1);
        same("-1", x.row(0, -1, false), -1);
        same("no ROW", x.row(1, 0, true), -1);
        same("no ROW", x.row(-1, 0, true), -1);
        Check.hand(x, "10101010101" + "1");
        same("15 at most", x.row(0, 0, true), 15);
        same("15", x.row(0, 15, false), -1);
        for (int i = 0; i < 14; i++) {
            x.start();
        }
        same("the first is there", x.row(0, 0, true), 15);
        Check.hand(x, "11");
        x.start();
        same("the oldest goes", x.row(0, 0, true), 0);
        same("the one ahead", x.row(13, 0, true), 2);
        same("the latest", x.row(14, 0, true), 0);
        same("15 ROWS", x.row(15, 0, true), -1);
    }

    private static void fraction(NoiseWatch x, int what, int n, int above, int below) {
        same("bound(" + what + "," + n + ") above", x.bound(what, n, false), above);
        same("bound(" + what + "," + n + ") below", x.bound(what, n, true), below);
    }

    private static void bound() {
        NoiseWatch x = heard("", "0110100111");
        fraction(x, 0, 10, 6, 10);
        fraction(x, 0, 4, 3, 4);
        fraction(x, 0, 2, 2, 2);
        fraction(x, 1, 10, 9, 3);
        fraction(x, 1, 9, 8, 3);
        fraction(x, 1, 2, 2, 1);
        fraction(x, 1, 4, 3, 1);
        fraction(x, 2, 10, 3, 4);
        fraction(x, 2, 2, 1, 1);
        for (int n : new int[] {-1, 0, 1, 11, 401}) {
            same("bound(0," + n + ")", x.bound(0, n, false), -1);
        }
        same("what 3", x.bound(3, 4, true), -1);
        same("what -1", x.bound(-1, 4, true), -1);
        NoiseWatch y = heard("", "01");
        fraction(y, 1, 2, 0, 0);
        fraction(y, 2, 2, 1, 1);
        NoiseWatch tie = heard("", "001100" + "0");
        fraction(tie, 2, 7, 3, 4);
        NoiseWatch even = heard("", "01010");
        fraction(even, 2, 5, 2, 2);
        NoiseWatch alike = heard("", "0010110");
        fraction(alike, 2, 7, 2, 3);
        NoiseWatch ones = heard("", "1111");
        fraction(ones, 2, 4, 3, 3);
        NoiseWatch half = heard("", "1110010");
        fraction(half, 2, 7, 1, 2);
        NoiseWatch other = heard("", "0001101");
        fraction(other, 2, 7, 2, 4);
        NoiseWatch most = Check.with("log 40;");
        most.start();
        most.draw(400);
        same("400", most.bound(0, 400, true), 400);
        same("401", most.bound(0, 401, true), -1);
    }

    private static void holds() {
        NoiseWatch x = heard("", "01");
        same("COMMON 1 by 2, COLLISION 0 by 0, not FOLLOW 1 by 1", x.holds(2), 3);
        same("1", x.holds(1), -1);
        same("3", x.holds(3), -1);
        same("401", x.holds(401), -1);
        NoiseWatch y = heard("", "11");
        same("none", y.holds(2), 0);
        NoiseWatch z = heard("", "0110100110");
        same("5 of 10, 9 by 3, 3 by 4", z.holds(10), 3);
        NoiseWatch eight = heard("chance 8;log 40;", "00110");
        same("FOLLOW 1 by 2", eight.bound(2, 5, true), 2);
        same("not 3 of 5, not 2 by 1, 1 by 2", eight.holds(5), 4);
        same("2 of 4, 3 by 1, not 1 by 1", eight.holds(4), 3);
        NoiseWatch all = heard("", "001101100");
        same("5 of 9, not 9 by 4, 2 by 4", all.holds(9), 5);
        NoiseWatch edge = heard("chance 12;log 40;", "0111");
        same("COMMON 3 of 4 by 12 of 16", edge.holds(4) & 1, 1);
        NoiseWatch below = heard("chance 11;log 40;", "0111");
        same("COMMON 3 of 4 by 11 of 16", below.holds(4) & 1, 0);
        NoiseWatch fine = heard("chance 8;log 40;", "00" + "010");
        same("COLLISION 5 by 2 by 8: 1280 and 1280", fine.holds(5) & 2, 2);
        NoiseWatch less = heard("chance 8;log 40;", "00" + "010" + "11");
        same("COLLISION 7 by 3 by 8: 1792 and 1920", less.holds(7) & 2, 0);
    }

    private static void claim() {
        NoiseWatch x = heard("", "0110100111");
        same("6 of 10 and 3 by 4", x.claim(10), 12);
        same("1 by 1", x.claim(2), 16);
        same("1", x.claim(1), -1);
        same("11", x.claim(11), -1);
        same("401", x.claim(401), -1);
        NoiseWatch y = heard("", "00110");
        same("3 of 5, 1 by 2", y.claim(5), 10);
        NoiseWatch even = heard("", "0011001" + "1");
        same("4 of 8, 2 by 3", even.claim(8), 11);
        NoiseWatch round = heard("", "001100110");
        same("5 of 9, 1 by 2", round.claim(9), 9);
    }

    private static void tuple() {
        NoiseWatch x = heard("", "0110100111");
        same("1", x.tuple(10, 1), 6);
        same("11", x.tuple(10, 2), 3);
        same("011", x.tuple(10, 3), 2);
        same("all", x.tuple(8, 8), 1);
        same("one", x.tuple(1, 1), 1);
        same("t beyond n", x.tuple(3, 4), -1);
        same("t 0", x.tuple(3, 0), -1);
        same("t 9", x.tuple(10, 9), -1);
        same("n 0", x.tuple(0, 1), -1);
        same("n 11", x.tuple(11, 1), -1);
        same("n 401", x.tuple(401, 1), -1);
        NoiseWatch y = heard("", "000000000000000");
        same("overlaps", y.tuple(15, 8), 8);
        NoiseWatch z = heard("", "1110000000");
        same("rows of the latest five alone", z.tuple(5, 3), 3);
    }

    private static void spreads() {
        NoiseWatch x = heard("chance 12;log 40;", "0111");
        same("3 of 4 by 12 of 16", x.spreads(4, 1), true);
        same("11 is 2 of 3: 512 and 432", x.spreads(4, 2), false);
        NoiseWatch y = heard("chance 11;log 40;", "0111");
        same("3 of 4 by 11 of 16", y.spreads(4, 1), false);
        NoiseWatch z = heard("chance 15;log 40;", "0110100111");
        same("1 of 3 by 8", z.spreads(10, 8), true);
        same("1 of 1 by 8", z.spreads(8, 8), false);
        same("t 9", z.spreads(10, 9), false);
        same("n 11", z.spreads(11, 1), false);
        same("n 0", z.spreads(0, 0), false);
    }

    private static void lag() {
        NoiseWatch x = heard("", "0110100111");
        same("d 1", x.lag(10, 1), 4);
        same("d 3", x.lag(10, 3), 4);
        same("d 9", x.lag(10, 9), 0);
        same("d 10", x.lag(10, 10), -1);
        same("d 0", x.lag(10, 0), -1);
        same("n 11", x.lag(11, 1), -1);
        same("latest 2", x.lag(2, 1), 1);
        same("n 1", x.lag(1, 1), -1);
        NoiseWatch y = Check.with("log 40;");
        y.start();
        y.draw(100);
        same("d 32", y.lag(100, 32) >= 0, true);
        same("d 33", y.lag(100, 33), -1);
        same("n 401", y.lag(401, 1), -1);
    }

    private static void echo() {
        NoiseWatch x = heard("", "0110110110");
        same("3", x.echo(10), 3);
        same("2", x.echo(2), 1);
        same("1", x.echo(1), -1);
        same("11", x.echo(11), -1);
        same("401", x.echo(401), -1);
        NoiseWatch y = heard("", "01");
        same("none alike", y.echo(2), 1);
        NoiseWatch z = heard("", "0101");
        same("2 of 2", z.echo(4), 2);
        same("32", echoed(32).echo(64), 32);
        same("33 is too far", echoed(33).echo(66) < 33, true);
        NoiseWatch part = heard("", "0010" + "1");
        same("1 of 4, 2 of 3, 0 of 2, 0 of 1", part.echo(5), 2);
        NoiseWatch even = heard("", "00110");
        same("2 of 4, 0 of 3, 1 of 2, 1 of 1", even.echo(5), 4);
    }

    /** So many drawn, and the same told again. */
    private static NoiseWatch echoed(int n) {
        NoiseWatch x = Check.with("log 40;");
        x.start();
        x.draw(n);
        x.start();
        for (int i = 0; i < n; i++) {
            x.hand(x.history(i), 1);
        }
        return x;
    }

    private static void compared() {
        NoiseWatch x = Check.with("chance 8;log 2;window 15;start 0;");
        for (int what = 0; what < 5; what++) {
            same("none, " + what, x.compared(what), 0);
        }
        same("-1", x.compared(-1), -1);
        same("5", x.compared(5), -1);
        NoiseWatch y = Check.with(CALM + "log 2;log 15;");
        y.start();
        Check.hand(y, "111111111111111");
        same("one", y.compared(0), 1);
        same("15 alike", y.compared(1), 15);
        same("columns of one", y.compared(2), 0);
        same("no ODD one: ROWS of 15 is 15", y.limit(25), 15);
        same("15 is not more than 15", y.compared(3), 0);
        y.start();
        Check.hand(y, "1");
        y.start();
        Check.hand(y, "101010101010101");
        same("two", y.compared(0), 2);
        same("columns", y.compared(2), 2);
        same("none odd of two", y.compared(4), 0);
        oddOnes();
    }

    /** An ALARM comes with the 15th of ones (5 alike), so that ROW is whole, and has 13 ones. */
    private static void oddOnes() {
        String ones = "111101111011111";
        String pairs = "110011001100110";
        NoiseWatch x = Check.with("chance 9;log 3;window 4;start 0;");
        same("REPEATS", x.limit(0), 5);
        same("ROWS of 15", x.limit(25), 12);
        same("ROWS of 6", x.limit(16), 6);
        same("ROWS of 7", x.limit(17), 6);
        row(x, ones, 15);
        same("13 are ODD", x.compared(3), 1);
        row(x, "1100", 4);
        for (int i = 0; i < 5; i++) {
            row(x, pairs, 15);
        }
        same("six", x.compared(0), 6);
        same("6 is not more than 6", x.compared(4), 0);
        row(x, pairs, 15);
        same("seven", x.compared(0), 7);
        same("greatest of a ROW", x.compared(1), 13);
        same("greatest of a column", x.compared(2), 7);
        same("where the ones agree with the pairs", x.compared(4), 1 + 2 + 32 + 256 + 4096 + 8192);
        row(x, "000010000100000", 15);
        same("by ROWS in their order, short ones, too", x.compared(3), 1 + 256);
        for (int i = 0; i < 7; i++) {
            x.start();
        }
        same("the first ROW went", x.compared(3), 128);
    }

    private static void row(NoiseWatch x, String samples, int heard) {
        x.start();
        same("a ROW " + samples, Check.hand(x, samples), heard);
    }

    private static void longest() {
        NoiseWatch x = heard("", "0110100111");
        same("long", x.longest(10, false), 3);
        same("where", x.longest(10, true), 7);
        same("of the latest 2", x.longest(2, false), 2);
        same("where", x.longest(2, true), 8);
        same("of the latest 1", x.longest(1, true), 9);
        same("0", x.longest(0, false), -1);
        same("11", x.longest(11, true), -1);
        same("401", x.longest(401, true), -1);
        NoiseWatch y = heard("", "0011");
        same("the first such", y.longest(4, true), 0);
        same("the first such of three", y.longest(3, true), 2);
    }

    private static void ahead() {
        NoiseWatch x = Check.with(TIGHT);
        same("OFF", x.ahead(5, 13), 5);
        same("OFF", x.ahead(5, 14), 0);
        x.start();
        same("drawn", x.ahead(2, 13), 2);
        same("nothing changes", x.count(13), 0);
        same("ALARM by 000", x.ahead(3, 9), 3);
        same("no ALARM by 00", x.ahead(2, 9), 2);
        same("failed", x.ahead(400, 10), 1);
        same("listened", x.ahead(400, 14), 3);
        same("a bit", x.ahead(2, 21), 1);
        for (int n : new int[] {-1, 0, 401}) {
            same("n " + n, x.ahead(n, 13), -1);
        }
        same("one", x.ahead(1, 13), 1);
        same("400", x.ahead(400, 13), 400);
        same("what 0", x.ahead(1, 0), 8);
        same("what 28", x.ahead(1, 28), 0);
        same("what 27", x.ahead(1, 27), 1);
        same("what 29", x.ahead(1, 29), -1);
        same("what -1", x.ahead(1, -1), -1);
        same("still", x.draw(3), 3);
        same("as told", x.count(9), 3);
    }

    private static void quiet() {
        NoiseWatch x = Check.with(TIGHT);
        same("OFF", x.quiet(), -1);
        x.start();
        same("000", x.quiet(), 3);
        x.draw(2);
        same("0", x.quiet(), 1);
        same("nothing changes", x.count(13), 2);
        x.draw(1);
        same("it is", x.quiet(), 0);
        NoiseWatch y = Check.with("log 40;bias 0;stuck 7 7 1;stuck 15 15 1;start 200;");
        y.start();
        same("16 alike from 16 on", y.quiet(), 32);
        NoiseWatch z = Check.with("log 40;seed 5;");
        z.start();
        same("no 16 alike", z.ahead(400, 14), 400);
        same("not by these", z.quiet(), -1);
        NoiseWatch far = Check.with("log 40;seed 5;stuck 384 384 0;stuck 385 400 1;");
        far.start();
        same("401", far.quiet(), -1);
        far.draw(1);
        same("400", far.quiet(), 400);
        NoiseWatch last = Check.with(CALM + "bias 0;seed 9;stuck 400 9999 1;");
        last.start();
        Check.hand(last, "1");
        same("behind a 1 by hand", last.quiet(), 16);
    }

    private static void replayed() {
        NoiseWatch x = heard("chance 15;log 2;window 4;start 200;", "0001011100");
        same("7", x.replayed(7), -1);
        same("16", x.replayed(16), -1);
        same("by 8: 000 101 ..", x.replayed(8), byHand());
        same("by 15", x.replayed(15), x.count(11));
        NoiseWatch none = new NoiseWatch();
        same("nothing heard", none.replayed(8), 0);
        NoiseWatch y = heard("chance 9;log 2;window 4;start 0;", "000");
        Check.hand(y, "0");
        same("an ALARM", y.count(9), 3);
        y.start();
        Check.hand(y, "00");
        same("HISTORY as one row of SAMPLES", y.count(26), 6);
        same("by 8: REPEATS 3", y.replayed(8), 2);
        same("by 9: REPEATS 4", y.replayed(9), 1);
        same("by 15: REPEATS 16, CHANGES 3", y.replayed(15), 0);
    }

    /** By CHANCE 8, LOG 2, WINDOW 4 (3, 4, 3): 000 fails, 1011 does not, 1 is the third one alike, 00 is left. */
    private static int byHand() {
        return 2;
    }

    private static void fit() {
        NoiseWatch x = new NoiseWatch();
        same("nothing heard", x.fit(), 8);
        NoiseWatch y = heard("chance 15;log 2;window 4;start 0;", "000");
        same("REPEATS of 9 is 4", y.fit(), 9);
        Check.hand(y, "0");
        same("REPEATS of 10 is 4, of 11 5", y.fit(), 11);
        NoiseWatch z = Check.with("chance 15;log 2;window 4;start 0;");
        z.start();
        Check.hand(z, "0101");
        same("CHANGES are alike for all", z.fit(), -1);
        NoiseWatch more = heard("chance 15;log 1;window 4;start 0;", "0000000");
        same("REPEATS of 14 is 7, of 15 12", more.fit(), 15);
    }

    private static void keen() {
        NoiseWatch x = new NoiseWatch();
        same("nothing heard", x.keen(), 1);
        NoiseWatch y = heard("chance 8;log 40;window 4;start 0;", "000");
        same("REPEATS 4 by LOG 3", y.keen(), 3);
        NoiseWatch z = heard("chance 8;log 40;window 4;start 0;", "0101");
        same("CHANGES 4 by LOG 4", z.keen(), 4);
        NoiseWatch mostly = heard("chance 8;log 40;start 0;", "111011101110111");
        same("PROPORTION 13 by LOG 6", mostly.keen(), 6);
        NoiseWatch most = heard("log 40;start 0;", "000000000000000");
        same("REPEATS 16 by LOG 10", most.keen(), 10);
        NoiseWatch most8 = heard("chance 8;log 40;start 0;", "000000000000000");
        same("REPEATS 16 by LOG 15", most8.keen(), 15);
        Check.hand(most8, "1");
        same("still", most8.keen(), 15);
        most8.settings();
        same("all forgotten", most8.keen(), 1);
        Check.hand(most, "0");
        same("16 alike: by none", most.keen(), -1);
    }

    private static void image() {
        NoiseWatch x = new NoiseWatch();
        same("-1", x.image(-1), false);
        same("3", x.image(3), false);
        same("0", x.image(0), true);
        same("2", x.image(2), true);
        same("nothing changes", x.count(12), 0);
        x.start();
        same("over the earlier one", x.image(0), true);
        x.stop();
        same("again", x.again(0), true);
        same("STARTS", x.count(9), 1);
        same("the other", x.again(2), true);
        same("OFF", x.count(9), 0);
    }

    private static void again() {
        wholeImage();
        NoiseWatch x = Check.with("chance 9;log 3;window 5;start 4;block 2;bias 9;stick 1;seed 77;stuck 90 95 1;");
        for (int k = -1; k < 4; k++) {
            same("none " + k, x.again(k), false);
        }
        x.start();
        x.draw(3);
        Check.tell(x, "log 0;");
        x.settings();
        Check.tell(x, "chance");
        x.image(1);
        String after = after(x);
        Check.tell(x, " 8;");
        same("other settings", x.settings(), 0);
        same("images stay", x.again(1), true);
        same("the text", x.count(28), 6);
        same("the fault", x.fault(false), 2);
        same("its place", x.fault(true), 4);
        counts("as it was", x, 0, 9, 3, 5, 4, 2, 4, 9, 1, 1, 1, 0, 0, 1, 3, 3, 3);
        texts("and goes on as it did", after(x), after);
        same("as often as one likes", x.again(1), true);
        texts("and goes on as it did", after(x), after);
        same("another", x.again(0), false);
    }

    /** Kept in the midst of a BLOCK, with all counts other than at first. */
    private static void wholeImage() {
        String all = all(busy());
        NoiseWatch one = busy();
        Check.hand(one, "1");
        String on = all(one);
        NoiseWatch x = busy();
        x.image(2);
        Check.tell(x, " 20;seed 1;");
        same("other settings", x.settings(), 0);
        same("brought back", x.again(2), true);
        texts("all", all(x), all);
        Check.hand(x, "1");
        texts("goes on with its BLOCK", all(x), on);
        NoiseWatch y = busy();
        y.image(2);
        y.start();
        y.draw(100);
        y.again(2);
        texts("all", all(y), all);
        same("0 of a text told since", y.count(28), 3);
        NoiseWatch stuck = Check.with("bias 0;stick 15;stuck 0 0 1;seed 3;");
        stuck.start();
        stuck.draw(1);
        stuck.image(0);
        stuck.draw(1);
        same("sticks to the 1", stuck.history(1), 1);
        stuck.settings();
        stuck.again(0);
        stuck.draw(1);
        same("sticks to it again", stuck.history(1), 1);
    }

    /** WASTED, TAKEN, gone ones, ALARMS, a BLOCK that has begun, and a POOL whose first bits were taken. */
    private static NoiseWatch busy() {
        NoiseWatch x = Check.with("chance 8;log 40;start 0;block 3;out 16;seed 5;stick 2;");
        x.start();
        x.draw(390);
        x.hand(0, 16);
        same("an ALARM", x.count(11), 1);
        x.start();
        x.draw(400);
        x.take(7);
        Check.hand(x, "1");
        x.tell(0x6c6f670000000000L);
        for (int what = 9; what <= 28; what++) {
            same("count(" + what + ") is not 0", x.count(what) != 0, true);
        }
        return x;
    }

    private static String all(NoiseWatch x) {
        StringBuilder text = new StringBuilder();
        for (int what = 0; what <= 28; what++) {
            text.append(' ').append(x.count(what));
        }
        // Some of the bits alone: an object has no more than 512 calls.
        for (int k = 0; k < 400; k += 7) {
            text.append(x.history(k)).append(x.pool(k / 2));
        }
        for (int i = 0; i < 30; i++) {
            text.append(x.row(i / 15, i % 15, false));
        }
        return text.append(x.fault(false)).append(x.fault(true)).append(x.ahead(400, 22)).append(x.quiet())
            .append(x.fit()).append(x.keen()).append(x.replayed(8)).toString();
    }

    private static String after(NoiseWatch x) {
        StringBuilder text = new StringBuilder();
        for (int i = 0; i < 20; i++) {
            text.append(x.draw(5)).append(' ').append(x.count(10)).append(' ').append(x.take(1)).append(' ');
            if (x.count(9) == 3) {
                text.append(x.start()).append(' ');
            }
        }
        for (int k = 0; k < 30; k++) {
            text.append(x.history(3 * k)).append(x.row(k % 15, k % 7, false));
        }
        return text.append(x.compared(2)).toString();
    }

    public static void main(String[] args) {
        Runnable[] promises = {PromisesTest::newObject, PromisesTest::tell, PromisesTest::settings, PromisesTest::fault,
            PromisesTest::start, PromisesTest::stop, PromisesTest::draw, PromisesTest::hand, PromisesTest::take,
            PromisesTest::count, PromisesTest::limit, PromisesTest::odds, PromisesTest::history, PromisesTest::pool,
            PromisesTest::row, PromisesTest::bound, PromisesTest::holds, PromisesTest::claim, PromisesTest::tuple,
            PromisesTest::spreads, PromisesTest::lag, PromisesTest::echo, PromisesTest::compared,
            PromisesTest::longest, PromisesTest::ahead, PromisesTest::quiet, PromisesTest::replayed,
            PromisesTest::fit, PromisesTest::keen, PromisesTest::image, PromisesTest::again};
        for (int i = 0; i < promises.length; i++) {
            CHECK.part("promise " + (i + 1));
            promises[i].run();
        }
        CHECK.part("the watch");
        watch();
        CHECK.end("PromisesTest");
    }
}
