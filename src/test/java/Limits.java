import java.util.Arrays;
import java.util.function.Supplier;

/**
 * A MakingLimits under test, made for one sentence of the document: the answer of a call behind due() is held against
 * the one that is due, any other call must not throw, and none comes after the 512th, where all answers are free.
 */
final class Limits {
    static final int NONE = -1;
    static final String NO_INDEX = "throws.IndexOutOfBoundsException";
    static final String NO_ARGUMENT = "throws.IllegalArgumentException";

    /** Limits 10,10,20,5,4,100; from 1 at 500 cents, from 10 at 300; 7 days. */
    static final String COARSE = "C10,10,20,5,4,100:1@500,10@300/7;";
    /** Limits 5,5,10,3,8,200; from 5 at 900 cents; 3 days. */
    static final String FINE = "C5,5,10,3,8,200:5@900/3;";
    /** No THING is BEYOND it. */
    static final String ALL = "C0,0,0,0,1000000,1000000:1@1000/1;";

    /** Numbers that are no index anywhere, the ends of an int among them. */
    static final int[] NO_INDICES = {-1, -2, 60, 61, 400, 1 << 16, Integer.MIN_VALUE, Integer.MAX_VALUE};
    /** The nearest quantities that are none, and some whose lower 32 bits would be one. */
    static final long[] NO_QUANTITIES = {0, -1, 1000001, 1L << 32, (1L << 32) + 1, -(1L << 32) + 1,
        Long.MIN_VALUE, Long.MAX_VALUE};

    private static final int MOST_CALLS = 512;

    private final String sentence;
    private final MakingLimits limits = new MakingLimits();
    private int calls;
    private String due;

    Limits(int promise, String sentence) {
        this("promise " + promise, sentence);
    }

    Limits(String heading, String sentence) {
        this.sentence = heading + ", '" + sentence + "': ";
    }

    int calls() {
        return calls;
    }

    Limits due(Object answer) {
        due = String.valueOf(answer);
        return this;
    }

    Limits none() {
        return due(NONE);
    }

    Limits noIndex() {
        return due(NO_INDEX);
    }

    Limits noArgument() {
        return due(NO_ARGUMENT);
    }

    void unit(int u) {
        call(() -> limits.unit(u), "unit", u);
    }

    void maker() {
        call(limits::maker, "maker");
    }

    void thing(int kind, long v, int layer) {
        call(() -> limits.thing(kind, v, layer), "thing", kind, v, layer);
    }

    void at(int thing, long x, long y) {
        call(() -> limits.at(thing, x, y), "at", thing, x, y);
    }

    void run(int maker, int cls) {
        call(() -> limits.run(maker, cls), "run", maker, cls);
    }

    void remark(int k, int what) {
        call(() -> limits.remark(k, what), "remark", k, what);
    }

    void least(int maker) {
        call(() -> limits.least(maker), "least", maker);
    }

    void price(int maker, int cls, long quantity) {
        call(() -> limits.price(maker, cls, quantity), "price", maker, cls, quantity);
    }

    void share(long cents, long quantity, int k) {
        call(() -> limits.share(cents, quantity, k), "share", cents, quantity, k);
    }

    void balance(int layer, int cell, int part) {
        call(() -> limits.balance(layer, cell, part), "balance", layer, cell, part);
    }

    void quote(int maker, long until) {
        call(() -> limits.quote(maker, until), "quote", maker, until);
    }

    void copper(int layer, int cell, long above, long below) {
        call(() -> limits.copper(layer, cell, above, below), "copper", layer, cell, above, below);
    }

    void best(long quantity) {
        call(() -> limits.best(quantity), "best", quantity);
    }

    void order(int maker, long quantity, long day) {
        call(() -> limits.order(maker, quantity, day), "order", maker, quantity, day);
    }

    void history(int k, int what) {
        call(() -> limits.history(k, what), "history", k, what);
    }

    void clear() {
        call(() -> {
            limits.clear();
            return "nothing";
        }, "clear");
    }

    /** Every character must be taken. */
    void write(String text) {
        String later = due;
        for (int i = 0; i < text.length(); i++) {
            due(true).unit(text.charAt(i));
        }
        due = later;
    }

    /** The text, and maker(): what is due is maker()'s answer. */
    void maker(String text) {
        write(text);
        call(limits::maker, "'" + text + "' maker");
    }

    /** All parts of a REMARK, by their numbers. */
    void remarkRow(int k, int... parts) {
        for (int what = 0; what < parts.length; what++) {
            due(parts[what]).remark(k, what);
        }
    }

    /** All parts of an order, by their numbers. */
    void historyRow(int k, int... parts) {
        for (int what = 0; what < parts.length; what++) {
            due(parts[what]).history(k, what);
        }
    }

    void balanceRow(int layer, int cell, long above, long below) {
        due(above).balance(layer, cell, 0);
        due(below).balance(layer, cell, 1);
    }

    private void call(Supplier<Object> call, String name, Object... arguments) {
        calls++;
        String got = calls > MOST_CALLS ? "freely after " + MOST_CALLS + " calls" : Due.answerOf(call);
        String want = due;
        if (want == null) {
            boolean answers = calls <= MOST_CALLS && !got.startsWith("throws.");
            want = answers ? got : "an answer";
        }
        due = null;
        String list = Arrays.toString(arguments);
        Due.same(sentence + name + "(" + list.substring(1, list.length() - 1) + ")", want, got);
    }
}
