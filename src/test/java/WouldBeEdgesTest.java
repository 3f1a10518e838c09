/** The edges of what would be and of what is kept: promises 25 to 31; and that questions change nothing (Terms 3). */
public final class WouldBeEdgesTest {
    private static final Check CHECK = new Check();
    private static final int LEAST = Integer.MIN_VALUE;
    private static final int MOST = Integer.MAX_VALUE;
    /** REPEATS 16, and no other TEST can fail. */
    private static final String CALM = "chance 8;log 40;start 0;";
    private static final int[] ODD_NUMBERS = {LEAST, LEAST + 1, -65536, -513, -1, 0, 1, 2, 3, 4, 7, 8, 15, 16, 28, 29, 31,
        32, 33, 255, 256, 399, 400, 401, 511, 512, 65536, 1 << 30, MOST - 1, MOST};

    private static void same(String what, long got, long want) {
        CHECK.same(what, got, want);
    }

    private static void counts(String when, NoiseWatch x, int from, int... want) {
        for (int i = 0; i < want.length; i++) {
            same(when + ", count(" + (from + i) + ")", x.count(from + i), want[i]);
        }
    }

    private static void ahead() {
        CHECK.part("If n SAMPLES more were DRAWN, 1 to 400: what as count() then. NONE: another n, another what.");
        for (int n : new int[] {LEAST, -1, 0, 401, 402, MOST}) {
            States.refused(CHECK, "ahead(" + n + ", 13)", x -> x.ahead(n, 13));
            States.refused(CHECK, "ahead(" + n + ", 0)", x -> x.ahead(n, 0));
        }
        for (int what : new int[] {LEAST, -1, 29, 30, MOST}) {
            States.refused(CHECK, "ahead(1, " + what + ")", x -> x.ahead(1, what));
            States.refused(CHECK, "ahead(400, " + what + ")", x -> x.ahead(400, what));
        }
        for (int n : new int[] {1, 2, 37, 399, 400}) {
            for (int state = 0; state < 6; state++) {
                NoiseWatch asked = state(state);
                NoiseWatch drawn = state(state);
                drawn.draw(n);
                for (int what = 0; what <= 28; what++) {
                    same("ahead(" + n + ", " + what + ") of " + state, asked.ahead(n, what), drawn.count(what));
                }
            }
        }
        NoiseWatch off = new NoiseWatch();
        same("OFF they are DRAWN", off.ahead(400, 13), 400);
        same("OFF it does not listen", off.ahead(400, 14), 0);
        same("and none is", off.count(13), 0);
    }

    private static NoiseWatch state(int k) {
        switch (k) {
            case 0:
                return new NoiseWatch();
            case 1:
                return States.stopped();
            case 2:
                return States.starting();
            case 3:
                return States.running();
            case 4:
                return States.full();
            default:
                return States.alarmed();
        }
    }

    /** Mixed SAMPLES, then 16 alike, the last of which is DRAWN by this number. */
    private static NoiseWatch alarmAt(int number) {
        NoiseWatch x = Check.with("log 40;seed 5;stuck " + (number - 16) + " " + (number - 16) + " 0;stuck "
            + (number - 15) + " " + number + " 1;");
        x.start();
        return x;
    }

    private static void quiet() {
        CHECK.part("How many SAMPLES must be DRAWN, 1 to 400, till it is in ALARM (0: it is). NONE: not by these, it is OFF.");
        same("the 399th", alarmAt(398).quiet(), 399);
        same("the 400th", alarmAt(399).quiet(), 400);
        same("the 401st", alarmAt(400).quiet(), -1);
        same("the 401st, one DRAWN", drawn(alarmAt(400), 1).quiet(), 400);
        same("the next one", drawn(alarmAt(398), 398).quiet(), 1);
        same("it is", drawn(alarmAt(398), 399).quiet(), 0);
        same("it still is", drawn(alarmAt(398), 400).quiet(), 0);
        NoiseWatch x = drawn(alarmAt(398), 399);
        x.stop();
        same("OFF behind an ALARM", x.quiet(), -1);
        same("OFF at first", new NoiseWatch().quiet(), -1);
        x.start();
        same("behind it no ALARM", x.quiet(), -1);
        NoiseWatch starts = Check.with("chance 8;log 40;start 200;bias 0;");
        starts.start();
        same("as it STARTS", starts.quiet(), 16);
        NoiseWatch told = Check.heard("chance 8;log 40;start 200;bias 0;", "000");
        same("those told by hand are alike, too", told.quiet(), 13);
        for (int n = 1; n <= 16; n++) {
            same("ahead(" + n + ", 9)", starts.ahead(n, 9), n < 16 ? 1 : 3);
        }
    }

    private static NoiseWatch drawn(NoiseWatch x, int n) {
        x.draw(n);
        return x;
    }

    /** By LOG 2, WINDOW 4: REPEATS of CHANCE 8 to 15 are 3, 4, 4, 5, 6, 8, 12, 16; CHANGES 3; PROPORTION 4, 4, 4, 5 .. */
    private static void replayed() {
        CHECK.part("A watch by CHANCE c, 8 to 15 .. NONE: another c.");
        for (int c : new int[] {LEAST, -1, 0, 7, 16, 17, MOST}) {
            States.refused(CHECK, "replayed(" + c + ")", x -> x.replayed(c));
        }
        int[] repeats = {3, 4, 4, 5, 6, 8, 12, 16};
        int[] alarms = {5, 3, 3, 3, 2, 1, 1, 0};
        NoiseWatch x = Check.heard("chance 15;log 2;window 4;start 0;", "000000000000000");
        for (int c = 8; c <= 15; c++) {
            NoiseWatch by = Check.with("chance " + c + ";log 2;window 4;");
            same("REPEATS by " + c, by.limit(0), repeats[c - 8]);
            same("15 alike by " + c, x.replayed(c), alarms[c - 8]);
        }
        CHECK.part("replayed: and STARTS again at each ALARM");
        NoiseWatch y = Check.heard("chance 15;log 40;start 0;", "0000000000000000");
        same("16 alike by 15", y.replayed(15), 1);
        y.start();
        Check.hand(y, "000000000000000");
        same("31 alike: 16 and 15", y.replayed(15), 1);
        Check.hand(y, "0");
        same("32 alike: 16 and 16", y.replayed(15), 2);
        CHECK.part("replayed: HISTORY, the oldest first, whatever STARTS there were");
        NoiseWatch s = Check.with("chance 15;log 40;start 0;");
        s.start();
        Check.hand(s, "00000000");
        s.start();
        Check.hand(s, "0000000");
        same("8 and 7 alike", s.replayed(15), 0);
        s.start();
        Check.hand(s, "0");
        same("8, 7 and 1 alike", s.replayed(15), 1);
        same("though none was", s.count(11), 0);
        CHECK.part("replayed: WINDOWS begin anew at each ALARM");
        NoiseWatch w = Check.with("chance 15;log 40;window 4;start 0;");
        w.start();
        Check.hand(w, "110" + "0101" + "1");
        same("CHANGES 4 of 4: none by LOG 40", w.replayed(8), 0);
        NoiseWatch v = Check.heard("chance 15;log 3;window 4;start 0;", "0101");
        counts("CHANGES 3", v, 9, 3, 4);
        v.start();
        Check.hand(v, "1001");
        v.start();
        Check.hand(v, "1010");
        same("0101 1001 1010", v.replayed(15), 2);
        same("nothing heard", new NoiseWatch().replayed(8), 0);
        NoiseWatch end = Check.heard("chance 15;log 3;window 4;start 0;", "010");
        same("2 changes and nothing behind", end.replayed(15), 0);
        same("nor by another CHANCE", end.replayed(10), 0);
        same("fit() alike", end.fit(), 8);
        same("keen() alike: CHANGES 2 by LOG 1, 3 by LOG 2", end.keen(), 2);
        CHECK.part("replayed: SETTINGS, START and the ALARM stay");
        NoiseWatch z = States.alarmed();
        z.replayed(8);
        counts("still", z, 0, 9, 40);
        counts("still", z, 9, 3, 1, 1);
    }

    private static void fit() {
        CHECK.part("The least CHANCE, 8 to 15, by which replayed() is 0. NONE: none.");
        same("nothing heard", new NoiseWatch().fit(), 8);
        int[] repeats = {3, 4, 4, 5, 6, 8, 12, 16};
        for (int alike = 1; alike <= 16; alike++) {
            NoiseWatch x = Check.with("chance 15;log 2;window 4;start 0;");
            x.start();
            x.hand(0, alike);
            int least = 8;
            while (least <= 15 && repeats[least - 8] <= alike) {
                least++;
            }
            same(alike + " alike", x.fit(), least <= 15 ? least : -1);
            for (int c = 8; c <= 15; c++) {
                same(alike + " alike by " + c, x.replayed(c) == 0 ? 1 : 0, least <= c ? 1 : 0);
            }
        }
        NoiseWatch x = Check.heard("chance 15;log 3;window 4;start 0;", "0101");
        same("CHANGE fails by each of them", x.fit(), -1);
        NoiseWatch many = Check.heard("chance 15;log 6;start 0;", "111111101111111");
        same("14 of 15: PROPORTION of 10 is 14, of 11 15", many.fit(), 11);
        same("by 10", many.replayed(10), 1);
        same("by 11", many.replayed(11), 0);
    }

    private static void keen() {
        CHECK.part("The least LOG, 1 to 40, by which .. without an ALARM. NONE: by none.");
        same("nothing heard", new NoiseWatch().keen(), 1);
        for (int alike = 1; alike <= 16; alike++) {
            NoiseWatch x = Check.with("chance 8;log 40;window 4;start 0;");
            x.start();
            x.hand(0, alike);
            // WINDOW 4: 3 like the first one are too many by LOG 1, 4 by LOG 2 and 3.
            int least = alike == 16 ? -1 : Math.max(alike, alike > 3 ? 4 : 1);
            same(alike + " alike", x.keen(), least);
        }
        NoiseWatch last = Check.with("chance 15;log 40;start 0;");
        last.start();
        last.hand(0, 15);
        same("15 alike by 15: REPEATS 12 by LOG 1, 16 by 2", last.keen(), 2);
        last.hand(0, 1);
        same("16 alike", last.keen(), -1);
        NoiseWatch changing = Check.heard("chance 8;log 40;start 0;", "010101010101010");
        same("14 changes of 14: by LOG 15", changing.keen(), 15);
        NoiseWatch less = Check.heard("chance 8;log 40;start 0;", "010101010101011");
        same("13 changes of 14: odds 15 of 16384, by LOG 11", less.keen(), 11);
        for (int log = 10; log <= 11; log++) {
            NoiseWatch by = Check.with("chance 8;start 0;log " + log + ";");
            by.start();
            Check.hand(by, "010101010101011");
            same("by LOG " + log, by.count(11), log < 11 ? 1 : 0);
        }
        CHECK.part("keen, fit, replayed: as often as they are asked");
        NoiseWatch often = Check.with("chance 8;log 15;start 0;");
        often.start();
        often.hand(0, 15);
        for (int i = 0; i < 3; i++) {
            same("keen", often.keen(), 15);
            same("replayed", often.replayed(8), 0);
            same("fit", often.fit(), 8);
        }
        often.settings();
        same("keen of nothing heard", often.keen(), 1);
        same("replayed of nothing heard", often.replayed(8), 0);
        same("fit of nothing heard", often.fit(), 8);
        CHECK.part("keen: (all other SETTINGS alike)");
        NoiseWatch by9 = Check.with("chance 9;log 40;window 4;start 0;");
        by9.start();
        by9.hand(0, 8);
        same("8 alike by 9", by9.keen(), byHand(9, 8));
        NoiseWatch by12 = Check.with("chance 12;log 40;window 4;start 0;");
        by12.start();
        by12.hand(0, 8);
        same("8 alike by 12", by12.keen(), byHand(12, 8));
        same("its own LOG stays", by12.count(1), 40);
    }

    /** The least LOG by which neither so many alike nor 4 of a WINDOW of 4 are too many, by fractions of a double. */
    private static int byHand(int chance, int alike) {
        double odds = 1;
        for (int i = 1; i < alike; i++) {
            odds *= chance / 16.0;
        }
        double four = chance / 16.0 * (chance / 16.0) * (chance / 16.0);
        int log = 1;
        double times = 2;
        while (odds * times <= 1 || four * times <= 1) {
            log++;
            times *= 2;
        }
        return log;
    }

    private static void image() {
        CHECK.part("All that there is (THE TEXT, the FAULT, too) is kept as k, 0 to 2: true; false for another k.");
        for (int k : new int[] {LEAST, -3, -1, 3, 4, MOST}) {
            States.refused(CHECK, "image(" + k + ")", x -> x.image(k) ? 1 : 0, 0);
        }
        for (int state = 0; state < 6; state++) {
            for (int k = 0; k <= 2; k++) {
                NoiseWatch x = state(state);
                same("image(" + k + ") of " + state, x.image(k) ? 1 : 0, 1);
                x.start();
                x.draw(45);
                x.take(3);
                Check.tell(x, " log");
                x.settings();
                Check.tell(x, "log 9;start 1;block 2;out 1;bias 2;stick 1;seed 3;stuck 1 1 1;stuck 2 2 0;");
                x.settings();
                x.start();
                x.draw(60);
                Check.tell(x, "out");
                same("again(" + k + ") of " + state, x.again(k) ? 1 : 0, 1);
                NoiseWatch due = state(state);
                due.image(k);
                CHECK.same("as it was, " + state, States.whole(x), States.whole(due));
            }
        }
        CHECK.part("All that there is .. is kept: HISTORY that went round, whole");
        String heard = Check.history(States.full(), 0);
        NoiseWatch round = States.full();
        Check.tell(round, " 20;");
        round.settings();
        round.start();
        for (int i = 0; i < 17; i++) {
            round.hand(0x55555555, 32);
        }
        same("none of it is left", round.longest(400, false), 1);
        same("again", round.again(0) ? 1 : 0, 1);
        CHECK.same("HISTORY", Check.history(round, 0), heard);
        CHECK.part("All that there is .. is kept: what is of the BLOCK, ROWS that are short");
        NoiseWatch block = Check.heard(CALM + "block 16;out 16;", "10");
        block.start();
        Check.hand(block, "11010001");
        block.image(1);
        Check.hand(block, "10010111");
        String pool = Check.pool(block);
        block.start();
        Check.hand(block, "0000");
        block.again(1);
        CHECK.same("the second ROW", Check.row(block, 1), "11010001");
        Check.hand(block, "10010111");
        CHECK.same("the register", Check.pool(block), pool);
        CHECK.same("11 bits of 1101000110010111", pool, "10101001000");
        block.start();
        Check.hand(block, "00101110");
        block.again(1);
        Check.hand(block, "10010111");
        CHECK.same("the register behind another", Check.pool(block), pool);
        block.settings();
        for (int i = 0; i < 3; i++) {
            block.start();
            Check.hand(block, "1010101");
        }
        block.again(1);
        CHECK.same("the first ROW", Check.row(block, 0), "10");
        CHECK.same("the second ROW", Check.row(block, 1), "11010001");
        same("no third ROW", block.row(2, 0, true), -1);
        CHECK.part("image: nothing but what is kept changes");
        for (int state = 0; state < 6; state++) {
            NoiseWatch x = state(state);
            x.image(0);
            NoiseWatch due = state(state);
            due.again(1);
            CHECK.same("of " + state, States.wholeButText(x), States.wholeButText(due));
        }
        CHECK.part("kept as k: the latest one so kept, whatever the others are");
        NoiseWatch x = Check.with("log 3;");
        x.image(0);
        x.start();
        x.image(1);
        x.stop();
        x.start();
        x.image(2);
        x.image(0);
        x.start();
        x.again(1);
        same("1", x.count(12), 1);
        x.again(2);
        same("2", x.count(12), 2);
        x.start();
        x.again(0);
        same("0", x.count(12), 2);
    }

    private static void again() {
        CHECK.part("All is as it was kept as k: true; false if there is none such.");
        for (int k : new int[] {LEAST, -1, 1, 2, 3, 4, MOST}) {
            States.refused(CHECK, "again(" + k + ")", x -> x.again(k) ? 1 : 0, 0);
        }
        NoiseWatch x = new NoiseWatch();
        same("none kept", x.again(0) ? 1 : 0, 0);
        x.image(1);
        same("0 is none", x.again(0) ? 1 : 0, 0);
        same("1 is", x.again(1) ? 1 : 0, 1);
        same("2 is none", x.again(2) ? 1 : 0, 0);
        CHECK.part("again: as often as one likes, and what is kept stays so");
        NoiseWatch y = States.running();
        for (int i = 0; i < 3; i++) {
            same("again", y.again(0) ? 1 : 0, 1);
            counts("as it was kept", y, 9, 2, 0, 0, 2, 60, 60, 40);
            y.draw(100);
            y.take(5);
            y.start();
        }
    }

    /** Each question, asked in a way that has an answer and in ways that have none. */
    private static void ask(NoiseWatch x, int a, int b) {
        x.count(a);
        x.odds(a, true);
        x.history(a);
        x.pool(a);
        x.row(a, b, true);
        x.row(a, b, false);
        x.bound(0, a, true);
        x.bound(b, a, false);
        x.holds(a);
        x.claim(a);
        x.tuple(a, b);
        x.spreads(a, b);
        x.lag(a, b);
        x.echo(a);
        x.compared(b);
        x.longest(a, true);
        x.longest(a, false);
        x.ahead(a, b);
        x.quiet();
        x.replayed(b);
        x.fit();
        x.keen();
        x.fault(true);
        x.fault(false);
    }

    private static void questionsChangeNothing() {
        CHECK.part("Questions change nothing.");
        int[] numbers = {LEAST, -1, 0, 1, 2, 8, 14, 40, 90, 400, 401, MOST};
        for (int a : numbers) {
            for (int b : new int[] {-1, 0, 1, 2, 4, 9, 13, 33}) {
                States.unchanged(CHECK, "questions of " + a + ", " + b, x -> ask(x, a, b));
            }
        }
    }

    private static void limited(NoiseWatch x, int what) {
        try {
            x.limit(what);
        } catch (java.util.NoSuchElementException none) {
            same("only where it is due", what >= 0 && what < 5 || what > 10 && what < 26 ? 1 : 0, 0);
        }
    }

    /** Whatever is asked in whatever state: nothing is thrown but by limit(). */
    private static void neverThrown() {
        CHECK.part("LANGUAGE 7: No call may ever throw by itself, for any arguments in any state");
        int calls = 0;
        for (int state = 0; state < 6; state++) {
            for (int a : ODD_NUMBERS) {
                for (int b : ODD_NUMBERS) {
                    NoiseWatch x = state(state);
                    ask(x, a, b);
                    limited(x, a);
                    x.draw(a);
                    x.hand(a, b);
                    x.take(b);
                    x.image(a);
                    x.again(b);
                    x.tell((long) a << 32 | b);
                    x.settings();
                    x.stop();
                    x.start();
                    ask(x, b, a);
                    calls++;
                }
            }
        }
        same("asked", calls, 6 * ODD_NUMBERS.length * ODD_NUMBERS.length);
    }

    public static void main(String[] args) {
        ahead();
        quiet();
        replayed();
        fit();
        keen();
        image();
        again();
        questionsChangeNothing();
        neverThrown();
        CHECK.end("WouldBeEdgesTest");
    }
}
