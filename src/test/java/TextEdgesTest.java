/** The edges that the document names of SETTINGS and THE TEXT: Terms 1, promises 1 to 4, each by its own words. */
public final class TextEdgesTest {
    private static final Check CHECK = new Check();
    private static final String FOUR = "stuck 1 1 1;stuck 1 1 1;stuck 1 1 1;stuck 1 1 1;";

    private static void same(String what, long got, long want) {
        CHECK.same(what, got, want);
    }

    private static String printed(String text) {
        StringBuilder plain = new StringBuilder();
        for (char sign : text.toCharArray()) {
            plain.append(sign > 32 && sign < 127 ? "" + sign : sign == 32 ? " " : "<" + (int) sign + ">");
        }
        return plain.toString();
    }

    /** What becomes of a text (fault 0: it is read), on a new object and on one that is at work. */
    private static void read(String text, int fault, int place) {
        NoiseWatch x = new NoiseWatch();
        Check.tell(x, text);
        String name = printed(text);
        same("settings() of " + name, x.settings() >= 0 ? 1 : 0, fault == 0 ? 1 : 0);
        same("fault of " + name, x.fault(false), fault);
        same("place of " + name, x.fault(true), place);
        same("THE TEXT is empty behind " + name, x.count(28), 0);
        if (fault != 0) {
            refusedSettings(text);
        }
    }

    /** A FAULT: all but THE TEXT and the FAULT stays. */
    private static void refusedSettings(String text) {
        NoiseWatch x = atWork();
        Check.tell(x, text);
        same("a FAULT in " + printed(text), x.settings(), -1);
        CHECK.same("all stays behind " + printed(text), States.wholeButText(x), States.wholeButText(atWork()));
    }

    private static NoiseWatch atWork() {
        NoiseWatch x = Check.with("chance 9;log 39;window 5;start 3;block 5;out 9;seed 7;stick 3;bias 9;stuck 50 53 1;");
        x.start();
        x.draw(40);
        return x;
    }

    private static int counted(String text, int what) {
        return Check.with(text).count(what);
    }

    /** A setting's first value, least and most one, and what is beyond. */
    private static void range(String word, int what, int first, int least, int most) {
        CHECK.part("Terms 1, SETTINGS: " + word);
        same(word + " at first", new NoiseWatch().count(what), first);
        same(word + " least", counted(word + " " + least + ";", what), least);
        same(word + " least and 1", counted(word + " " + (least + 1) + ";", what), least + 1);
        same(word + " most less 1", counted(word + " " + (most - 1) + ";", what), most - 1);
        same(word + " most", counted(word + " " + most + ";", what), most);
        int place = word.length() + 1;
        if (least > 0) {
            read(word + " " + (least - 1) + ";", 2, place);
            read(word + " 0;", 2, place);
        }
        read(word + " " + (most + 1) + ";", 2, place);
        read(word + " 9999;", 2, place);
        for (int other = 0; other < 8; other++) {
            if (other != what) {
                same("count(" + other + ") by " + word, counted(word + " " + most + ";", other),
                    new NoiseWatch().count(other));
            }
        }
    }

    private static void ranges() {
        range("chance", 0, 10, 8, 15);
        range("log", 1, 20, 1, 40);
        range("window", 2, 15, 4, 15);
        range("start", 3, 32, 0, 200);
        range("block", 4, 16, 2, 64);
        range("out", 5, 4, 1, 16);
        range("bias", 6, 8, 0, 16);
        range("stick", 7, 0, 0, 15);
        CHECK.part("Terms 1, SETTINGS: seed");
        read("seed 0;", 0, -1);
        read("seed 9999;", 0, -1);
        read("seed 10000;", 1, 5);
        CHECK.same("1 at first", States.whole(new NoiseWatch()), States.whole(Check.with("seed 1;")));
    }

    private static void stuckOnes() {
        CHECK.part("stuck: .. 0 to 9999, no less than the first, 0 or 1");
        read("stuck 0 0 0;", 0, -1);
        read("stuck 9999 9999 1;", 0, -1);
        read("stuck 0 9999 0;", 0, -1);
        read("stuck 10000 10000 0;", 1, 6);
        read("stuck 0 10000 0;", 1, 8);
        read("stuck 5 5 1;", 0, -1);
        read("stuck 5 4 1;", 2, 8);
        read("stuck 1 0 1;", 2, 8);
        read("stuck 9999 9998 1;", 2, 11);
        read("stuck 5 6 1;", 0, -1);
        read("stuck 0 0 2;", 2, 10);
        read("stuck 0 0 9999;", 2, 10);
        CHECK.part("stuck: .. 4 of them at most");
        for (int n = 0; n <= 4; n++) {
            NoiseWatch x = new NoiseWatch();
            Check.tell(x, FOUR.substring(0, 12 * n));
            same(n + " of them", x.settings(), n);
            same(n + " of them, count(8)", x.count(8), n);
        }
        read(FOUR + "stuck 1 1 1;", 3, 48);
        read(FOUR + "stuck 1 1 1;stuck 1 1 1;", 3, 48);
        CHECK.part("Later ones strike, but stuck, which are further ones.");
        same("the later log", counted("log 3;chance 9;log 4;", 1), 4);
        same("the later log, if it is the first value", counted("log 3;log 20;", 1), 20);
        same("a stuck told twice", Check.with("stuck 1 1 1;log 3;stuck 1 1 1;").count(8), 2);
        read("log 0;log 4;", 2, 4);
    }

    private static void atMost300() {
        CHECK.part("THE TEXT has at most 300 bytes. NONE, and nothing comes, if it would have more than 300.");
        for (int before : new int[] {292, 293, 299, 300}) {
            for (int more = 0; more <= 8; more++) {
                NoiseWatch x = blanks(before);
                long eight = Check.eight("        ".substring(0, more));
                boolean fits = before + more <= 300;
                same(more + " behind " + before, x.tell(eight), fits ? before + more : -1);
                same(more + " behind " + before + ", count(28)", x.count(28), fits ? before + more : before);
            }
        }
        NoiseWatch x = blanks(299);
        same("two behind 299", x.tell(Check.eight("zz")), -1);
        same("and none of the two is read", x.settings(), 0);
        same("behind it from none on", x.tell(Check.eight("zz")), 2);
        StringBuilder full = new StringBuilder();
        for (int i = 0; i < 50; i++) {
            full.append("log ").append(1 + i % 9).append(';');
        }
        read(full.toString(), 0, -1);
        same("the last one of 50 strikes", counted(full.toString(), 1), 5);
        read(full.substring(0, 294) + "log 3 ", 1, 300);
        NoiseWatch other = atWork();
        Check.tell(other, full.toString());
        other.tell(Check.eight("log"));
        other.settings();
        same("a refused tell() is no part of it", other.count(1), 5);
        CHECK.part("NONE, and nothing comes: nothing else does");
        NoiseWatch told = fullAtWork();
        same("refused", told.tell(Check.eight("1")), -1);
        CHECK.same("nothing changes", States.whole(told), States.whole(fullAtWork()));
    }

    private static NoiseWatch blanks(int n) {
        NoiseWatch x = new NoiseWatch();
        StringBuilder text = new StringBuilder();
        while (text.length() < n) {
            text.append(' ');
        }
        same("blanks", Check.tell(x, text.toString()), n);
        return x;
    }

    private static NoiseWatch fullAtWork() {
        NoiseWatch x = atWork();
        for (int i = 0; i < 37; i++) {
            x.tell(Check.eight("log 3;  "));
        }
        same("300", x.tell(Check.eight("  lo")), 300);
        return x;
    }

    private static void upToTheFirst0() {
        CHECK.part("those of eight, the highest first, up to the first one that is 0");
        for (int at = 0; at < 8; at++) {
            NoiseWatch x = new NoiseWatch();
            long eight = 0x6c6f672033313b0aL & ~(255L << (56 - 8 * at));
            same("a 0 at " + at, x.tell(eight), at);
            same("a 0 at " + at + ", count(28)", x.count(28), at);
        }
        NoiseWatch x = new NoiseWatch();
        same("all eight", x.tell(0x6c6f672033313b0aL), 8);
        same("the highest first", x.settings(), 0);
        same("log 31", x.count(1), 31);
        same("0 first", x.tell(0x006f672033313b0aL), 0);
        same("none of all", x.tell(0L), 0);
        same("bytes of 128 and more are bytes", x.tell(-1L), 8);
        same("of 128", x.tell(0x8080808080808080L), 16);
        States.refused(CHECK, "tell(0)", y -> y.tell(0L) - y.count(28), 0);
    }

    /** Each byte there is between a word and its NUMBER. */
    private static void blanksBetween() {
        CHECK.part("with blanks (32, 10) between where one likes");
        for (int sign = 1; sign < 256; sign++) {
            String text = "log" + (char) sign + "3;";
            if (sign == 32 || sign == 10) {
                read(text, 0, -1);
                same("log 3", counted(text, 1), 3);
            } else if (sign >= '0' && sign <= '3') {
                read(text, 0, -1);
                same("log " + (char) sign + "3", counted(text, 1), 10 * (sign - '0') + 3);
            } else if (sign >= '4' && sign <= '9') {
                read(text, 2, 3);
            } else if (sign >= 'a' && sign <= 'z') {
                read(text, 1, 0);
            } else {
                read(text, 1, 3);
            }
        }
        read("log3;", 0, -1);
        read(" \n log \n\n 3 \n ; \n", 0, -1);
        read("lo g 3;", 1, 0);
        read("log 1 2;", 1, 6);
        read("log 1\n2;", 1, 6);
        read("", 0, -1);
        read(" ", 0, -1);
        read("\n", 0, -1);
    }

    /** Each byte there is where a word must stand, and where a sign must. */
    private static void bytesThatBeginNone() {
        CHECK.part("1 the first token that can not stand there, or a byte that begins none");
        for (int sign = 1; sign < 256; sign++) {
            boolean blank = sign == 32 || sign == 10;
            read((char) sign + "", blank ? 0 : 1, blank ? -1 : 0);
            read("log 3;" + (char) sign, blank ? 0 : 1, blank ? -1 : 6);
            if (!blank && sign != ';' && (sign < '0' || sign > '9')) {
                read("log 3" + (char) sign + ";", 1, 5);
                read("log 3 " + (char) sign, 1, 6);
            }
        }
    }

    /** In each place of a text that can be each sort of token that can not stand there. */
    private static void tokensOutOfPlace() {
        CHECK.part("1 the first token that can not stand there");
        String[] can = {"log", "5", ";", "stuck", "1", "2", "1", ";", "seed", "0", ";"};
        String sorts = "wns" + "wnnns" + "wns";
        String[] others = {"log", "stuck", "x", "stuckk", "5", "9999", "10000", ";", "?"};
        String sortsOfOthers = "ww..nn.s.";
        for (int place = 0; place < can.length; place++) {
            StringBuilder ahead = new StringBuilder();
            StringBuilder behind = new StringBuilder();
            for (int i = 0; i < can.length; i++) {
                (i < place ? ahead : behind).append(i == place ? "" : can[i] + " ");
            }
            for (int k = 0; k < others.length; k++) {
                if (sortsOfOthers.charAt(k) != sorts.charAt(place)) {
                    read(ahead + others[k] + " " + behind, 1, ahead.length());
                    read(ahead + others[k], 1, ahead.length());
                }
            }
        }
    }

    private static void digits() {
        CHECK.part("NUMBERS, 1 to 4 digits .. (a longer row of digits is none)");
        same("1 digit", counted("log 7;", 1), 7);
        same("2", counted("log 07;", 1), 7);
        same("3", counted("log 007;", 1), 7);
        same("4", counted("log 0007;", 1), 7);
        read("log 00007;", 1, 4);
        read("log 000000000000000000007;", 1, 4);
        read("log 99999999999;", 1, 4);
        read("log 4294967299;", 1, 4);
        read("00007", 1, 0);
        read("log 3 00007", 1, 6);
        read("log 9999;", 2, 4);
        read("stuck 0000 0009 0001;", 0, -1);
        read("stuck 0000 0009 00001;", 1, 16);
        CHECK.part("TOKENS, each as long as it goes");
        read("chancelog 9;", 1, 0);
        read("chance9log9;", 1, 7);
        read("stuck1 1 1;", 0, -1);
        read("stuck 11 1;", 1, 10);
        read("stuckk 1 1 1;", 1, 0);
        read("stuc 1 1 1;", 1, 0);
        read("log 3;chance 9;", 0, -1);
        read("log3;chance9;stuck0 0 0;", 0, -1);
        for (String word : new String[] {"chance", "log", "window", "start", "block", "out", "bias", "stick", "seed"}) {
            read(word + "8;", 0, -1);
            read(word.substring(1) + "8;", 1, 0);
            read(word.substring(0, word.length() - 1) + "8;", 1, 0);
            read(word + "s8;", 1, 0);
            read(word + word + "8;", 1, 0);
            read(word + " 8 8;", 1, word.length() + 3);
            read(word + ";", 1, word.length());
            read(word, 1, word.length());
            read(word.toUpperCase() + "8;", 1, 0);
            for (int i = 0; i < word.length(); i++) {
                read(word.substring(0, i) + "z" + word.substring(i + 1) + "8;", 1, 0);
            }
        }
    }

    /** Each beginning of a text: where more must come, the end is at fault, at how many bytes there are. */
    private static void theEnd() {
        CHECK.part("or the end, if more must come; the end's: how many bytes there are");
        String whole = "stuck 1 22 1 ; log 3;";
        int[] faults = new int[whole.length() + 1];
        int[] places = new int[whole.length() + 1];
        for (int n = 0; n <= whole.length(); n++) {
            faults[n] = 1;
            places[n] = n;
        }
        for (int n : new int[] {0, 14, 15, 21}) {
            faults[n] = 0;
            places[n] = -1;
        }
        for (int n : new int[] {1, 2, 3, 4}) {
            places[n] = 0;
        }
        places[16] = 15;
        places[17] = 15;
        for (int n = 0; n <= whole.length(); n++) {
            read(whole.substring(0, n), faults[n], places[n]);
        }
        read("log   ", 1, 6);
        read("log 3\n\n", 1, 7);
    }

    private static void firstByPlace() {
        CHECK.part("If there is none, the first by place");
        read("log 0;out 0;", 2, 4);
        read("log 3;out 0;chance 7;", 2, 10);
        read("log 41;" + FOUR + "stuck 1 1 1;", 2, 4);
        read(FOUR + "stuck 1 1 1;log 41;", 3, 48);
        read(FOUR + "log 41;stuck 1 1 1;", 2, 52);
        read(FOUR + "stuck 2 1 1;", 3, 48);
        read(FOUR.replace("stuck 1 1 1;stuck 1 1 1;stuck", "stuck 1 1 1;stuck 2 1 1;stuck") + "stuck 1 1 1;", 2, 20);
        read("stuck 5 4 2;", 2, 8);
        read("stuck 5 5 2;stuck 5 4 2;", 2, 10);
        CHECK.part("1 .. If there is none: what can not stand there goes ahead of all others");
        read("log 0;out", 1, 9);
        read("log 0;out 0;;", 1, 12);
        read("log 0", 1, 5);
        read(FOUR + "stuck 1 1 1", 1, 59);
        read(FOUR + "stuck", 1, 53);
        read("log 0;\t", 1, 6);
        read("log 0;seed 10000;", 1, 11);
        read("; log 3;\t", 1, 0);
        read("log;3;\t", 1, 3);
    }

    private static void theTextIsEmptyThen() {
        CHECK.part("THE TEXT is read as SETTINGS (it is empty then): all is as at first, but as told");
        NoiseWatch x = atWork();
        same("nothing told", x.settings(), 0);
        CHECK.same("as at first", States.whole(x), States.whole(new NoiseWatch()));
        NoiseWatch y = States.alarmed();
        same("THE TEXT so far: log 7", y.count(28), 5);
        Check.tell(y, ";stuck 3 4 1;");
        same("as told", y.settings(), 1);
        same("empty then", y.count(28), 0);
        same("no FAULT more", y.fault(false), 0);
        same("no place more", y.fault(true), -1);
        y.image(0);
        NoiseWatch z = Check.with("log 7;stuck 3 4 1;");
        z.image(0);
        CHECK.same("as at first, but as told", States.whole(y), States.whole(z));
        NoiseWatch all = States.full();
        for (int what = 8; what <= 28; what++) {
            same("count(" + what + ") is not 0", all.count(what) != 0 || what == 19 ? 1 : 0, 1);
        }
        Check.tell(all, " 20;");
        same("of one that is full", all.settings(), 0);
        NoiseWatch first = new NoiseWatch();
        all.image(0);
        first.image(0);
        CHECK.same("as at first", States.whole(all), States.whole(first));
        CHECK.part("all is as at first: none was DRAWN ahead");
        NoiseWatch stuck = Check.with("bias 16;");
        stuck.draw(9);
        Check.tell(stuck, "bias 16;stick 15;seed 1;");
        same("told anew", stuck.settings(), 0);
        stuck.start();
        stuck.draw(1);
        same("0 for the first one", stuck.history(0), 0);
        CHECK.part("NONE: a FAULT (all but THE TEXT, the FAULT stays)");
        NoiseWatch f = new NoiseWatch();
        Check.tell(f, "log 3;log");
        same("a FAULT", f.settings(), -1);
        same("empty then", f.count(28), 0);
        Check.tell(f, "3;");
        same("nothing of what was refused is left", f.settings(), -1);
        same("its place counts anew", f.fault(true), 0);
        same("log stays", f.count(1), 20);
    }

    private static void ofTheLatest() {
        CHECK.part("Of the latest settings(): its FAULT (0 without, and at first), or (place) its place (NONE without)");
        NoiseWatch x = new NoiseWatch();
        same("at first", x.fault(false), 0);
        same("at first, the place", x.fault(true), -1);
        Check.tell(x, "log 0;");
        same("not of what is told alone", x.fault(false), 0);
        x.settings();
        same("2", x.fault(false), 2);
        same("at 4", x.fault(true), 4);
        Check.tell(x, "x");
        x.start();
        x.draw(3);
        x.stop();
        same("still 2", x.fault(false), 2);
        same("still at 4", x.fault(true), 4);
        x.settings();
        same("1", x.fault(false), 1);
        same("at 0", x.fault(true), 0);
        x.settings();
        same("0", x.fault(false), 0);
        same("NONE", x.fault(true), -1);
    }

    public static void main(String[] args) {
        ranges();
        stuckOnes();
        atMost300();
        upToTheFirst0();
        blanksBetween();
        bytesThatBeginNone();
        tokensOutOfPlace();
        digits();
        theEnd();
        firstByPlace();
        theTextIsEmptyThen();
        ofTheLatest();
        CHECK.end("TextEdgesTest");
    }
}
