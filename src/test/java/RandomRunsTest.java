import java.util.Random;
import java.util.function.Supplier;

/** All promises: runs of calls with all sorts of arguments, each answered as the Model answers. */
public final class RandomRunsTest {
    private static final int RUNS = 1500;
    private static final int CALLS = 512;
    private static final int[] ODD_INTS = {-1, -2, 4, 5, 6, 7, 8, 9, 15, 16, 20, 60, 128,
        Integer.MIN_VALUE, Integer.MAX_VALUE};
    private static final long[] ODD_LONGS = {0, -1, 1000000, 1000001, -1000000, -1000001, 10, 11,
        1L << 32, (1L << 32) + 1, Long.MIN_VALUE, Long.MAX_VALUE};
    private static final String[] ODD_WHOLES = {"0", "00", "1000000", "1000001", "9999999", "12345678", "", "1001",
        "1000", "0000001"};

    private final Random random;
    private final MakingLimits limits = new MakingLimits();
    private final Model model = new Model();
    private final StringBuilder calls = new StringBuilder();
    private int left = CALLS;
    private boolean fault;

    private RandomRunsTest(long seed) {
        random = new Random(seed);
    }

    public static void main(String[] args) {
        for (int seed = 0; seed < RUNS; seed++) {
            new RandomRunsTest(seed).go(seed);
        }
        Due.end();
    }

    private void go(int seed) {
        while (left > 0 && !fault) {
            call();
        }
        if (fault) {
            Due.same("seed " + seed + ": " + calls, "no fault", () -> "a fault");
        }
    }

    private void call() {
        switch (random.nextInt(24)) {
            case 0, 1 -> text();
            case 2, 3, 4 -> thing(kind(), number(40), anInt(8));
            case 5 -> at(anInt(10), number(3), number(3));
            case 6 -> run(anInt(4), anInt(3));
            case 7, 8 -> remark(anInt(5), anInt(6));
            case 9 -> least(anInt(4));
            case 10, 11 -> price(anInt(4), anInt(3), number(30));
            case 12 -> share(number(100), number(12), anInt(12));
            case 13, 14 -> balance(anInt(8), anInt(16), anInt(2));
            case 15 -> quote(anInt(4), number(20));
            case 16, 17 -> copper(anInt(8), anInt(16), number(6), number(11));
            case 18 -> best(number(30));
            case 19, 20 -> order(anInt(4), number(30), number(20));
            case 21, 22 -> history(anInt(6), anInt(7));
            default -> rareCall();
        }
    }

    private void rareCall() {
        if (random.nextInt(30) == 0) {
            due("clear()", () -> {
                limits.clear();
                return "";
            }, () -> {
                model.clear();
                return "";
            });
        } else if (random.nextInt(10) == 0) {
            for (int i = 0; i < 60; i++) {
                thing(anInt(6), 20 + number(20), anInt(8));
            }
        } else {
            int u = anInt(130);
            due("unit(" + u + ")", () -> limits.unit(u), () -> model.unit(u));
        }
    }

    private void text() {
        String text = aText();
        for (int i = 0; i < text.length(); i++) {
            int u = text.charAt(i);
            due("unit(" + u + ")", () -> limits.unit(u), () -> model.unit(u));
        }
        due("maker()", limits::maker, model::maker);
    }

    private String aText() {
        StringBuilder text = new StringBuilder("M").append(random.nextInt(random.nextInt(4) == 0 ? 6 : 3));
        int classes = 1 + random.nextInt(random.nextInt(6) == 0 ? 5 : 2);
        for (int i = 0; i < classes; i++) {
            text.append('C');
            for (int kind = 0; kind < 6; kind++) {
                text.append(kind == 0 ? "" : ",").append(whole(kind < 4 ? 20 : 60));
            }
            text.append(':').append(steps()).append('/').append(whole(9)).append(';');
        }
        if (random.nextInt(5) == 0) {
            int place = random.nextInt(text.length());
            text.setCharAt(place, "MC0123456789,:@/; x".charAt(random.nextInt(19)));
        }
        if (random.nextInt(8) == 0) {
            text.setLength(random.nextInt(text.length() + 1));
        }
        return text.toString();
    }

    private String steps() {
        StringBuilder steps = new StringBuilder();
        int count = 1 + random.nextInt(random.nextInt(8) == 0 ? 5 : 3);
        int from = 0;
        for (int i = 0; i < count; i++) {
            from += random.nextInt(20) == 0 ? 0 : 1 + random.nextInt(10);
            steps.append(i == 0 ? "" : ",").append(from).append('@').append(whole(30));
        }
        return steps.toString();
    }

    private String whole(int bound) {
        return random.nextInt(50) == 0 ? ODD_WHOLES[random.nextInt(ODD_WHOLES.length)]
                : String.valueOf(1 + random.nextInt(bound));
    }

    private int kind() {
        return anInt(6);
    }

    private int anInt(int bound) {
        return random.nextInt(25) == 0 ? ODD_INTS[random.nextInt(ODD_INTS.length)] : random.nextInt(bound);
    }

    private long number(int bound) {
        return random.nextInt(25) == 0 ? ODD_LONGS[random.nextInt(ODD_LONGS.length)] : random.nextInt(bound);
    }

    private void thing(int kind, long v, int layer) {
        due("thing(" + kind + ", " + v + ", " + layer + ")",
                () -> limits.thing(kind, v, layer), () -> model.thing(kind, v, layer));
    }

    private void at(int thing, long x, long y) {
        due("at(" + thing + ", " + x + ", " + y + ")", () -> limits.at(thing, x, y), () -> model.at(thing, x, y));
    }

    private void run(int maker, int cls) {
        due("run(" + maker + ", " + cls + ")", () -> limits.run(maker, cls), () -> model.run(maker, cls));
    }

    private void remark(int k, int what) {
        due("remark(" + k + ", " + what + ")", () -> limits.remark(k, what), () -> model.remark(k, what));
    }

    private void least(int maker) {
        due("least(" + maker + ")", () -> limits.least(maker), () -> model.least(maker));
    }

    private void price(int maker, int cls, long quantity) {
        due("price(" + maker + ", " + cls + ", " + quantity + ")",
                () -> limits.price(maker, cls, quantity), () -> model.price(maker, cls, quantity));
    }

    private void share(long cents, long quantity, int k) {
        due("share(" + cents + ", " + quantity + ", " + k + ")",
                () -> limits.share(cents, quantity, k), () -> model.share(cents, quantity, k));
    }

    private void balance(int layer, int cell, int part) {
        due("balance(" + layer + ", " + cell + ", " + part + ")",
                () -> limits.balance(layer, cell, part), () -> model.balance(layer, cell, part));
    }

    private void quote(int maker, long until) {
        due("quote(" + maker + ", " + until + ")", () -> limits.quote(maker, until), () -> model.quote(maker, until));
    }

    private void copper(int layer, int cell, long above, long below) {
        due("copper(" + layer + ", " + cell + ", " + above + ", " + below + ")",
                () -> limits.copper(layer, cell, above, below), () -> model.copper(layer, cell, above, below));
    }

    private void best(long quantity) {
        due("best(" + quantity + ")", () -> limits.best(quantity), () -> model.best(quantity));
    }

    private void order(int maker, long quantity, long day) {
        due("order(" + maker + ", " + quantity + ", " + day + ")",
                () -> limits.order(maker, quantity, day), () -> model.order(maker, quantity, day));
    }

    private void history(int k, int what) {
        due("history(" + k + ", " + what + ")", () -> limits.history(k, what), () -> model.history(k, what));
    }

    private void due(String call, Supplier<Object> answer, Supplier<Object> due) {
        if (left <= 0 || fault) {
            return;
        }
        left--;
        String want = Due.answerOf(due);
        String got = Due.answerOf(answer);
        calls.append(call).append(" = ").append(got).append("; ");
        if (!want.equals(got)) {
            fault = true;
            calls.append("due is ").append(want);
        }
    }
}
