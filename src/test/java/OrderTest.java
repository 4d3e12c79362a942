/** Promises 12, 15 and 16: quote(), order() and history(). */
public final class OrderTest {
    private static final long[] NO_QUANTITIES = {0, -1, 1000001, 1L << 32, Long.MIN_VALUE, Long.MAX_VALUE};

    public static void main(String[] args) {
        quotesAreNumbered();
        ordersAreNumbered();
        ordersByTheOwnClasses();
        quotesHoldTheirClasses();
        quotesKeepToTheirDay();
        theLatestQuoteCounts();
        quotesAreOfTheirMaker();
        quotedClassesAloneCount();
        historyStays();
        historyOfDearOrders();
        historyThatIsNone();
        Due.end();
    }

    private static void quotesAreNumbered() {
        MakingLimits limits = new MakingLimits();
        Texts.maker(limits, "M0" + Texts.ALL);
        Texts.maker(limits, "M1" + Texts.ALL);
        Due.noIndex("quote(2, 1)", () -> limits.quote(2, 1));
        for (int i = 0; i < 10; i++) {
            int number = i;
            Due.same("quote " + number, number, () -> limits.quote(number % 2, Long.MIN_VALUE + number));
        }
        Due.same("an 11th quote", -1, () -> limits.quote(0, 1));
        for (int maker : new int[] {-1, 2, 3, 4, Integer.MIN_VALUE, Integer.MAX_VALUE}) {
            Due.noIndex("quote(" + maker + ", 1)", () -> limits.quote(maker, 1));
        }
        Due.same("order(0, 1, 1), where the 11th quote would hold", 0, () -> limits.order(0, 1, 1));
        Due.same("its quote", -1, () -> limits.history(0, 6));
    }

    private static void ordersAreNumbered() {
        MakingLimits limits = new MakingLimits();
        Texts.maker(limits, "M0C5,0,0,0,9,9:1@10/1;");
        for (int i = 0; i < 19; i++) {
            int number = i;
            Due.same("order " + number, number, () -> limits.order(0, 1 + number, number));
        }
        Due.same("order 19", 19, () -> limits.order(0, 1000000, Long.MAX_VALUE));
        Due.same("a 21st order", -1, () -> limits.order(0, 1, 1));
        Due.noIndex("history(20, 0)", () -> limits.history(20, 0));
        row(limits, 0, 0, 0, 1, 1, 0, 10, -1);
        row(limits, 18, 0, 0, 19, 1, 0, 190, -1);
        row(limits, 19, 0, 0, 1000000, 1, 10000, 0, -1);
        for (int maker : new int[] {-1, 1, 3, 4, Integer.MIN_VALUE, Integer.MAX_VALUE}) {
            Due.noIndex("order(" + maker + ", 1, 1)", () -> limits.order(maker, 1, 1));
            Due.noIndex("order(" + maker + ", 0, 1)", () -> limits.order(maker, 0, 1));
        }
        for (long quantity : NO_QUANTITIES) {
            Due.noArgument("order(0, " + quantity + ", 1)", () -> limits.order(0, quantity, 1));
        }
    }

    private static void ordersByTheOwnClasses() {
        MakingLimits limits = new MakingLimits();
        Texts.maker(limits, "M0" + Texts.COARSE + Texts.FINE);
        Due.same("order(0, 10, 1) of an empty board", 0, () -> limits.order(0, 10, 1));
        row(limits, 0, 0, 0, 10, 7, 3, 0, -1);
        limits.thing(0, 8, 0);
        Due.same("order(0, 4, 1) of width 8", 1, () -> limits.order(0, 4, 1));
        row(limits, 1, 0, 1, 4, 3, 4, 500, -1);
        limits.thing(0, 2, 0);
        Due.same("order(0, 4, 1) of width 2", -1, () -> limits.order(0, 4, 1));
        Due.noArgument("order(0, 0, 1) of width 2", () -> limits.order(0, 0, 1));
        Due.noIndex("history(2, 0)", () -> limits.history(2, 0));
    }

    private static void quotesHoldTheirClasses() {
        MakingLimits limits = new MakingLimits();
        Texts.maker(limits, "M0" + Texts.COARSE + Texts.FINE);
        limits.quote(0, 20);
        Texts.maker(limits, "M0" + Texts.ALL);
        Due.same("order(0, 10, 20)", 0, () -> limits.order(0, 10, 20));
        row(limits, 0, 0, 0, 10, 7, 3, 0, 0);
        Due.same("order(0, 10, 21)", 1, () -> limits.order(0, 10, 21));
        row(limits, 1, 0, 0, 10, 1, 10, 0, -1);
        limits.thing(0, 8, 0);
        Due.same("order(0, 10, 20) of width 8", 2, () -> limits.order(0, 10, 20));
        row(limits, 2, 0, 1, 10, 3, 9, 0, 0);
        Due.same("least(0), by its own class", 0, () -> limits.least(0));
    }

    private static void quotesKeepToTheirDay() {
        MakingLimits limits = new MakingLimits();
        Texts.maker(limits, "M0" + Texts.ALL);
        limits.quote(0, -5);
        long[][] due = {{-6, 0}, {-5, 0}, {-4, -1}, {0, -1}, {Long.MIN_VALUE, 0}, {Long.MAX_VALUE, -1}};
        for (int i = 0; i < due.length; i++) {
            limits.order(0, 1, due[i][0]);
            int k = i;
            Due.same("the quote of day " + due[k][0], due[k][1], () -> limits.history(k, 6));
        }
        limits.quote(0, Long.MAX_VALUE);
        limits.order(0, 1, Long.MAX_VALUE);
        Due.same("the quote of the last day", 1, () -> limits.history(due.length, 6));
    }

    private static void theLatestQuoteCounts() {
        MakingLimits limits = new MakingLimits();
        Texts.maker(limits, "M0C0,0,0,0,9,9:1@10/1;");
        limits.quote(0, 30);
        Texts.maker(limits, "M0C0,0,0,0,9,9:1@20/2;");
        limits.quote(0, 20);
        Texts.maker(limits, "M0C0,0,0,0,9,9:1@30/3;");
        limits.quote(0, 10);
        Texts.maker(limits, "M0C0,0,0,0,9,9:1@40/4;");
        int[][] due = {{10, 3, 30, 2}, {11, 2, 20, 1}, {20, 2, 20, 1}, {21, 1, 10, 0}, {30, 1, 10, 0}, {31, 4, 40, -1}};
        for (int i = 0; i < due.length; i++) {
            limits.order(0, 1, due[i][0]);
            row(limits, i, 0, 0, 1, due[i][1], 0, due[i][2], due[i][3]);
        }
    }

    private static void quotesAreOfTheirMaker() {
        MakingLimits limits = new MakingLimits();
        Texts.maker(limits, "M0C0,0,0,0,9,9:1@10/1;");
        Texts.maker(limits, "M1C0,0,0,0,9,9:1@20/2;");
        limits.quote(1, 5);
        limits.order(0, 3, 5);
        limits.order(1, 3, 5);
        row(limits, 0, 0, 0, 3, 1, 0, 30, -1);
        row(limits, 1, 1, 0, 3, 2, 0, 60, 0);
    }

    private static void quotedClassesAloneCount() {
        MakingLimits limits = new MakingLimits();
        Texts.maker(limits, "M0C5,0,0,0,9,9:1@10/1;");
        limits.quote(0, 5);
        Texts.maker(limits, "M0" + Texts.ALL);
        limits.thing(0, 4, 0);
        Due.same("order(0, 1, 5): the quote's class does not make it", -1, () -> limits.order(0, 1, 5));
        Due.same("order(0, 1, 6)", 0, () -> limits.order(0, 1, 6));
    }

    private static void historyStays() {
        MakingLimits limits = new MakingLimits();
        Texts.maker(limits, "M0" + Texts.COARSE);
        limits.order(0, 9, 1);
        Texts.maker(limits, "M0" + Texts.FINE);
        limits.thing(0, 0, 0);
        limits.quote(0, 9);
        row(limits, 0, 0, 0, 9, 7, 4, 500, -1);
    }

    private static void historyOfDearOrders() {
        MakingLimits limits = new MakingLimits();
        Texts.maker(limits, "M0C0,0,0,0,9,9:1000000@1000000/1000;");
        Texts.maker(limits, "M1C0,0,0,0,9,9:1@999999/0;");
        limits.order(0, 1, 1);
        limits.order(1, 999999, 1);
        row(limits, 0, 0, 0, 1, 1000, 1000000000, 0, -1);
        row(limits, 1, 1, 0, 999999, 0, 999998000, 1, -1);
    }

    private static void historyThatIsNone() {
        MakingLimits limits = new MakingLimits();
        Texts.maker(limits, "M0" + Texts.ALL);
        Due.noIndex("history(0, 0) without orders", () -> limits.history(0, 0));
        limits.order(0, 1, 1);
        for (int k : new int[] {-1, 1, 20, Integer.MIN_VALUE, Integer.MAX_VALUE}) {
            Due.noIndex("history(" + k + ", 0)", () -> limits.history(k, 0));
        }
        for (int what : new int[] {-1, 7, 8, Integer.MIN_VALUE, Integer.MAX_VALUE}) {
            Due.noIndex("history(0, " + what + ")", () -> limits.history(0, what));
        }
    }

    private static void row(MakingLimits limits, int k, int... due) {
        for (int i = 0; i < due.length; i++) {
            int what = i;
            Due.same("history(" + k + ", " + what + ")", due[what], () -> limits.history(k, what));
        }
    }
}
