import java.util.LinkedHashMap;
import java.util.Map;
import java.util.function.Consumer;
import java.util.function.Supplier;
import java.util.function.ToLongFunction;

/**
 * Objects in each state that there is, and all that can be told of one: a call that must change nothing is made on one
 * of two objects that were made alike, and these must stay alike. No object is used for more than 512 calls.
 */
final class States {
    private static final int[] AHEAD = {9, 10, 13, 14, 20, 21, 22, 23, 25, 26};
    private static final Map<String, Supplier<NoiseWatch>> ALL = new LinkedHashMap<>();
    private static final Map<String, String> DUE = new LinkedHashMap<>();

    static {
        ALL.put("a new object", NoiseWatch::new);
        ALL.put("OFF", States::stopped);
        ALL.put("STARTS", States::starting);
        ALL.put("RUNS", States::running);
        ALL.put("ALARM", States::alarmed);
        ALL.put("all full", States::full);
    }

    private States() {
    }

    /** A BLOCK that has begun, a POOL of which some were taken, a FAULT, THE TEXT half told, image 0 kept. */
    static NoiseWatch running() {
        NoiseWatch x = Check.with("chance 9;log 40;start 3;block 5;out 9;seed 77;stick 3;bias 9;stuck 300 303 1;");
        x.start();
        x.draw(20);
        x.start();
        x.draw(40);
        x.image(0);
        x.take(2);
        Check.tell(x, "log 0;");
        x.settings();
        Check.tell(x, "log 7");
        x.draw(30);
        return x;
    }

    /** HISTORY went round, the POOL is full and WASTED some, a BLOCK has begun with ones; nothing counted is 0. */
    static NoiseWatch full() {
        NoiseWatch x = Check.with("chance 8;log 40;start 0;block 3;out 16;seed 5;stick 2;stuck 9990 9999 1;");
        x.start();
        x.draw(390);
        x.hand(0, 16);
        x.start();
        x.draw(400);
        x.take(7);
        x.hand(1, 2);
        x.hand(3, 2);
        x.image(0);
        Check.tell(x, "log");
        return x;
    }

    static NoiseWatch stopped() {
        NoiseWatch x = running();
        x.stop();
        return x;
    }

    static NoiseWatch starting() {
        NoiseWatch x = running();
        x.start();
        x.draw(2);
        return x;
    }

    static NoiseWatch alarmed() {
        NoiseWatch x = running();
        x.hand(0, 32);
        return x;
    }

    /** The call answers so in every state, and changes nothing. */
    static void refused(Check check, String name, ToLongFunction<NoiseWatch> call, long due) {
        for (String state : ALL.keySet()) {
            check.same(name + ", " + state, call.applyAsLong(ALL.get(state).get()), due);
            unchanged(check, name, state, call::applyAsLong);
        }
    }

    static void refused(Check check, String name, ToLongFunction<NoiseWatch> call) {
        refused(check, name, call, NoiseWatch.NONE);
    }

    /** In every state the calls change nothing. */
    static void unchanged(Check check, String name, Consumer<NoiseWatch> calls) {
        for (String state : ALL.keySet()) {
            unchanged(check, name, state, calls);
        }
    }

    private static void unchanged(Check check, String name, String state, Consumer<NoiseWatch> calls) {
        NoiseWatch x = ALL.get(state).get();
        calls.accept(x);
        String due = DUE.computeIfAbsent(state, s -> whole(ALL.get(s).get()));
        check.same(name + " changes nothing, " + state, whole(x), due);
    }

    /** All that can be told of an object, and how it goes on. */
    static String whole(NoiseWatch x) {
        return asked(x) + " text " + x.count(28) + " " + x.fault(false) + " " + x.fault(true) + goesOn(x)
            + readsOn(x) + broughtBack(x);
    }

    /** The same without THE TEXT and the FAULT. */
    static String wholeButText(NoiseWatch x) {
        return asked(x) + goesOn(x);
    }

    private static String asked(NoiseWatch x) {
        StringBuilder text = new StringBuilder(counts(x)).append(bits(x)).append(" limits");
        for (int what = 0; what < 5; what++) {
            text.append(' ').append(x.limit(what));
        }
        text.append(" compared");
        for (int what = 0; what < 5; what++) {
            text.append(' ').append(x.compared(what));
        }
        int n = x.count(26);
        text.append(" bounds");
        for (int what = 0; what < 3; what++) {
            text.append(' ').append(x.bound(what, n, false)).append('/').append(x.bound(what, n, true));
        }
        text.append(' ').append(x.tuple(n, 8)).append(' ').append(x.lag(n, 3)).append(' ').append(x.longest(n, true))
            .append(" ahead");
        for (int what : AHEAD) {
            text.append(' ').append(x.ahead(400, what));
        }
        return text.append(' ').append(x.quiet()).append(' ').append(x.fit()).append(' ').append(x.keen()).toString();
    }

    private static String counts(NoiseWatch x) {
        StringBuilder text = new StringBuilder(" counts");
        for (int what = 0; what < 28; what++) {
            text.append(' ').append(x.count(what));
        }
        return text.toString();
    }

    /** Of long rows some, so that no object is asked too often. */
    private static String bits(NoiseWatch x) {
        StringBuilder text = new StringBuilder(" history ");
        int heard = x.count(26);
        for (int k = 0; k < heard; k += 1 + heard / 40) {
            text.append(x.history(k));
        }
        text.append(" pool ");
        int pooled = x.count(21);
        for (int k = 0; k < pooled; k += 1 + pooled / 40) {
            text.append(x.pool(k));
        }
        text.append(" rows ");
        int rows = x.count(27);
        for (int row = 0; row < rows; row++) {
            text.append(x.row(row, 0, true)).append(x.row(row, row, false)).append(x.row(row, 14 - row, false));
        }
        return text.toString();
    }

    private static String goesOn(NoiseWatch x) {
        StringBuilder text = new StringBuilder(" goes on ");
        text.append(x.hand(5, 3)).append(' ').append(x.draw(50)).append(counts(x)).append(" took ").append(x.take(7));
        text.append(" start ").append(x.start()).append(' ').append(x.draw(60)).append(counts(x)).append(bits(x));
        return text.append(" took ").append(x.take(9)).append(' ').append(x.stop()).toString();
    }

    private static String readsOn(NoiseWatch x) {
        Check.tell(x, " ;");
        return " reads on " + x.settings() + " " + x.fault(false) + " " + x.fault(true) + " " + x.count(1);
    }

    private static String broughtBack(NoiseWatch x) {
        return " kept " + x.again(1) + x.again(2) + x.again(0) + counts(x);
    }
}
