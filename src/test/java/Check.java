/** Counts what a test found wrong and prints it. */
final class Check {
    private int wrong = 0;
    private int asked = 0;
    private String part = "";

    void part(String name) {
        part = name;
    }

    void same(String what, long got, long want) {
        asked++;
        if (got != want) {
            wrong++;
            System.out.println(part + ": " + what + " answered " + got + ", due is " + want);
        }
    }

    void same(String what, boolean got, boolean want) {
        same(what, got ? 1 : 0, want ? 1 : 0);
    }

    void same(String what, String got, String want) {
        same(what + (got.equals(want) ? "" : ":\n  " + got + "\n  is due to be\n  " + want + "\n "), got.equals(want), true);
    }

    boolean failed() {
        return wrong != 0;
    }

    void end(String name) {
        System.out.println(name + ": " + asked + " answers, " + wrong + " wrong");
        if (wrong != 0) {
            System.exit(1);
        }
    }

    /** Puts a text behind THE TEXT, eight bytes at a time. */
    static int tell(NoiseWatch x, String text) {
        int last = x.tell(0L);
        for (int at = 0; at < text.length(); at += 8) {
            last = x.tell(eight(text.substring(at, Math.min(text.length(), at + 8))));
        }
        return last;
    }

    static long eight(String text) {
        long word = 0;
        for (int i = 0; i < 8; i++) {
            word = word << 8 | (i < text.length() ? text.charAt(i) & 255 : 0);
        }
        return word;
    }

    static NoiseWatch with(String text) {
        NoiseWatch x = new NoiseWatch();
        tell(x, text);
        if (x.settings() < 0) {
            throw new IllegalStateException("a fault in " + text);
        }
        return x;
    }

    /** Tells SAMPLES by hand, written as 0 and 1, up to 32 a call: how many were listened to. */
    static int hand(NoiseWatch x, String samples) {
        int heard = 0;
        for (int at = 0; at < samples.length(); at += 32) {
            String some = samples.substring(at, Math.min(samples.length(), at + 32));
            heard += x.hand((int) Long.parseLong(some, 2), some.length());
        }
        return heard;
    }

    /** An object by these SETTINGS that STARTS and hears these SAMPLES. */
    static NoiseWatch heard(String settings, String samples) {
        NoiseWatch x = with(settings);
        x.start();
        hand(x, samples);
        return x;
    }

    /** HISTORY from a place on, written as 0 and 1. */
    static String history(NoiseWatch x, int from) {
        StringBuilder text = new StringBuilder();
        int size = x.count(26);
        for (int k = from; k < size; k++) {
            text.append(x.history(k));
        }
        return text.toString();
    }

    static String pool(NoiseWatch x) {
        StringBuilder text = new StringBuilder();
        int size = x.count(21);
        for (int k = 0; k < size; k++) {
            text.append(x.pool(k));
        }
        return text.toString();
    }

    static String row(NoiseWatch x, int row) {
        StringBuilder text = new StringBuilder();
        int size = x.row(row, 0, true);
        for (int i = 0; i < size; i++) {
            text.append(x.row(row, i, false));
        }
        return text.toString();
    }
}
