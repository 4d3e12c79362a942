/** Promises 1 and 17: a new object, and clear(), after which each sentence of promise 1 holds again. */
public final class NewAndClearTest {
    public static void main(String[] args) {
        for (boolean cleared : new boolean[] {false, true}) {
            noMakers(cleared);
            noThings(cleared);
            noQuotes(cleared);
            noOrders(cleared);
            noCopper(cleared);
            noText(cleared);
            noRemarks(cleared);
        }
        objectsAreApart();
        clearedTwice();
        clearedWhenNew();
        fullAgainAfterClear();
        fullTextIsCleared();
        Due.end();
    }

    private static Limits limits(boolean cleared, String sentence) {
        if (!cleared) {
            return new Limits(1, sentence);
        }
        Limits limits = new Limits(17, "As at first: " + sentence);
        use(limits);
        limits.clear();
        return limits;
    }

    private static void use(Limits limits) {
        limits.maker("M0" + Limits.COARSE);
        limits.maker("M1" + Limits.ALL);
        limits.thing(0, 1, 2);
        limits.at(0, 3, 4);
        limits.due(1).run(0, 0);
        limits.quote(1, 5);
        limits.due(0).order(1, 1, 1);
        limits.copper(0, 0, 1, 2);
        limits.copper(7, 15, 1, 1);
        limits.copper(3, 4, 5, 7);
        limits.write("M");
    }

    private static void noMakers(boolean cleared) {
        Limits limits = limits(cleared, "No MAKERS");
        for (int maker = -1; maker < 5; maker++) {
            limits.noIndex().least(maker);
            limits.noIndex().run(maker, 0);
            limits.noIndex().price(maker, 0, 1);
            limits.noIndex().quote(maker, 1);
            limits.noIndex().order(maker, 1, 1);
        }
        limits.none().best(1);
        limits.due(-1).maker("M1" + Limits.FINE);
        limits.due(0).maker("M0" + Limits.FINE);
        limits.noIndex().least(1);
    }

    private static void noThings(boolean cleared) {
        Limits limits = limits(cleared, "No THINGS");
        limits.noIndex().at(0, 0, 0);
        limits.maker("M0C1000000,1000000,1000000,1000000,0,0:1@1/1;");
        limits.due(0).run(0, 0);
        limits.due(0).least(0);
        limits.due(0).thing(1, 1, 1);
        limits.noIndex().at(1, 0, 0);
        limits.due(false).at(0, 0, 0);
    }

    private static void noQuotes(boolean cleared) {
        Limits limits = limits(cleared, "No quotes");
        limits.maker("M0" + Limits.FINE);
        limits.maker("M1" + Limits.FINE);
        limits.order(1, 5, 5);
        limits.historyRow(0, 1, 0, 5, 3, 4, 500, -1);
        limits.due(0).quote(0, 1);
    }

    private static void noOrders(boolean cleared) {
        Limits limits = limits(cleared, "No orders");
        limits.noIndex().history(0, 0);
        limits.maker("M0" + Limits.FINE);
        limits.due(0).order(0, 1, 1);
        limits.noIndex().history(1, 0);
    }

    private static void noCopper(boolean cleared) {
        Limits limits = limits(cleared, "all cells without copper");
        for (int cell = 0; cell < 128; cell++) {
            limits.balanceRow(cell / 16, cell % 16, 0, 1);
        }
        // One cell alone with copper tells that all the others of its layer have none.
        for (int layer = 0; layer < 8; layer++) {
            limits.due(true).copper(layer, 2 * layer, 1, 1);
            limits.balanceRow(layer, 2 * layer, 15, 16);
            limits.balanceRow(layer, 2 * layer + 1, -1, 16);
        }
    }

    private static void noText(boolean cleared) {
        Limits limits = limits(cleared, "A new object's text is empty");
        limits.due(-1).maker();
        limits = limits(cleared, "A new object's text is empty");
        limits.due(0).maker("M0" + Limits.FINE);
    }

    private static void noRemarks(boolean cleared) {
        Limits limits = limits(cleared, "A new object has no REMARKS");
        limits.remarkRow(0, -1, -1, -1, -1, -1, -1);
        limits.thing(0, 1, 2);
        limits.remarkRow(0, -1, -1, -1, -1, -1, -1);
    }

    private static void objectsAreApart() {
        Limits other = new Limits(1, "An object beside a new one");
        use(other);
        Limits limits = new Limits(1, "A new object beside one in use");
        limits.noIndex().least(0);
        limits.noIndex().at(0, 0, 0);
        limits.noIndex().history(0, 0);
        limits.balanceRow(0, 0, 0, 1);
        limits.remarkRow(0, -1, -1, -1, -1, -1, -1);
        limits.due(-1).maker();
        limits.clear();
        other.remarkRow(0, 0, 0, 9, 2, 3, 4);
        other.historyRow(0, 1, 0, 1, 1, 1, 0, 0);
        other.balanceRow(7, 15, 15, 16);
        other.due(-2).maker();
    }

    private static void clearedTwice() {
        Limits limits = new Limits(17, "As at first, a second time");
        use(limits);
        limits.clear();
        use(limits);
        limits.remarkRow(0, 0, 0, 9, 2, 3, 4);
        limits.historyRow(0, 1, 0, 1, 1, 1, 0, 0);
        limits.clear();
        limits.clear();
        limits.noIndex().least(0);
        limits.noIndex().at(0, 0, 0);
        limits.noIndex().history(0, 0);
        limits.balanceRow(3, 4, 0, 1);
        limits.none().remark(0, 0);
        limits.due(-1).maker();
    }

    private static void clearedWhenNew() {
        Limits limits = new Limits(17, "As at first, of a new object");
        limits.clear();
        limits.noIndex().least(0);
        limits.balanceRow(0, 0, 0, 1);
        limits.due(0).thing(0, 0, 0);
        limits.due(0).maker("M0" + Limits.FINE);
    }

    private static void fullAgainAfterClear() {
        Limits limits = new Limits(17, "As at first, of a full object");
        for (int round = 0; round < 2; round++) {
            limits.due(0).maker("M0" + Limits.ALL);
            for (int i = 0; i < 60; i++) {
                limits.due(i).thing(0, 1, 0);
            }
            limits.none().thing(0, 1, 0);
            for (int i = 0; i < 10; i++) {
                limits.due(i).quote(0, 1);
            }
            limits.none().quote(0, 1);
            for (int i = 0; i < 20; i++) {
                limits.due(i).order(0, 1, 1);
            }
            limits.none().order(0, 1, 1);
            limits.clear();
        }
    }

    private static void fullTextIsCleared() {
        Limits limits = new Limits(17, "As at first, of a full text");
        limits.write("x".repeat(400));
        limits.due(false).unit('x');
        limits.clear();
        limits.due(0).maker("M0" + Limits.FINE);
    }
}
