/** "An object is used for at most 512 calls": the last of them is answered as the first, whatever came ahead. */
public final class CallsTest {
    private static final int MOST = 512;
    private static final String SMALLEST = "C0,0,0,0,0,0:1@1/0;";

    public static void main(String[] args) {
        manyMakers();
        manyUnits();
        manyRefusedUnits();
        manyRuns();
        manyCoppers();
        manyRefusedCalls();
        manyQuotesAndOrders();
        manyClears();
        Due.end();
    }

    private static Limits limits(String sentence) {
        return new Limits("at most 512 calls", sentence);
    }

    private static void isLast(Limits limits) {
        Due.same("the calls of a run", MOST, limits::calls);
    }

    private static void manyMakers() {
        Limits limits = limits("MAKERS told anew");
        for (int i = 0; limits.calls() + SMALLEST.length() + 4 < MOST; i++) {
            limits.due(i % 4).maker("M" + i % 4 + SMALLEST);
        }
        while (limits.calls() < MOST - 1) {
            limits.due(-1).maker();
        }
        limits.due(1000000).price(3, 0, 1000000);
        isLast(limits);
    }

    private static void manyUnits() {
        Limits limits = limits("a text that is full");
        limits.write("M0" + SMALLEST);
        limits.write("~".repeat(400 - 2 - SMALLEST.length()));
        while (limits.calls() < MOST - 1) {
            limits.due(false).unit('~');
        }
        limits.due(-3 - SMALLEST.length()).maker();
        isLast(limits);
    }

    private static void manyRefusedUnits() {
        Limits limits = limits("refused characters");
        limits.write("M0" + SMALLEST);
        while (limits.calls() < MOST - 1) {
            limits.due(false).unit(127);
        }
        limits.due(0).maker();
        isLast(limits);
    }

    private static void manyRuns() {
        Limits limits = limits("runs over all THINGS");
        limits.maker("M0C1,1,1,1,0,0:1@1/0;");
        for (int i = 0; i < 60; i++) {
            limits.due(i).thing(i % 6, i % 6 < 4 ? 0 : 1, i % 8);
        }
        while (limits.calls() < MOST - 1) {
            limits.due(60).run(0, 0);
        }
        limits.due(59 % 8).remark(59, 3);
        isLast(limits);
    }

    private static void manyCoppers() {
        Limits limits = limits("copper");
        for (int i = 0; i < MOST - 1; i++) {
            limits.due(true).copper(i % 128 / 16, i % 16, 1 + i / 128, 10);
        }
        // The last cell alone is still at 3/10, where the others of its layer have 4/10.
        limits.due(-3).balance(7, 15, 0);
        isLast(limits);
    }

    private static void manyRefusedCalls() {
        Limits limits = limits("refused calls");
        while (limits.calls() + 16 < MOST) {
            limits.noIndex().thing(6, 0, 0);
            limits.noArgument().thing(0, -1, 0);
            limits.noIndex().at(0, 0, 0);
            limits.noIndex().run(0, 0);
            limits.noIndex().remark(0, 6);
            limits.none().remark(0, 0);
            limits.noIndex().least(0);
            limits.noIndex().price(0, 0, 1);
            limits.noArgument().share(0, 0, 0);
            limits.noIndex().balance(0, 0, 2);
            limits.noIndex().quote(0, 1);
            limits.noArgument().copper(0, 0, 2, 1);
            limits.noArgument().best(0);
            limits.noIndex().order(0, 1, 1);
            limits.noIndex().history(0, 0);
        }
        while (limits.calls() < MOST - 1) {
            limits.none().best(1);
        }
        limits.due(0).thing(0, 0, 0);
        isLast(limits);
    }

    private static void manyQuotesAndOrders() {
        Limits limits = limits("quotes and orders beyond their ends");
        limits.maker("M0" + SMALLEST);
        for (int i = 0; limits.calls() < MOST - 2; i++) {
            limits.due(i < 10 ? i : -1).quote(0, 1);
            limits.due(i < 20 ? i : -1).order(0, 1 + i, 1);
        }
        while (limits.calls() < MOST - 1) {
            limits.none().quote(0, 1);
        }
        limits.due(20).history(19, 2);
        isLast(limits);
    }

    private static void manyClears() {
        Limits limits = limits("clear()");
        while (limits.calls() < MOST - 2) {
            limits.due(0).thing(0, 0, 0);
            limits.clear();
        }
        limits.due(0).thing(0, 0, 0);
        limits.due(false).at(0, 0, 0);
        isLast(limits);
    }
}
