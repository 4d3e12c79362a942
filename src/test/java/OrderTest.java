/** Promises 12, 15 and 16: quote(), order() and history(). */
public final class OrderTest {
    private static final String CHEAP = "C0,0,0,0,9,9:1@10/1;";
    private static final String DEAR = "C0,0,0,0,9,9:1@20/2;";

    public static void main(String[] args) {
        tenQuotes();
        quotesOfNoMaker();
        quotesHoldTheClassesAsTheyAre();
        quotesHoldAllClasses();
        quotesOfAnyDay();
        ordersAreNumbered();
        twentyOrders();
        ordersOfNoClass();
        ordersByTheLeastClass();
        quotesHoldOnTheirDay();
        theLatestQuoteThatHolds();
        quotesOfTheirMaker();
        ordersWithoutAQuoteThatHolds();
        ordersByQuotedClassesAlone();
        ordersOfNoMaker();
        quantitiesOfOrders();
        refusedOrders();
        historyOfAllParts();
        historyOfPrices();
        historyOfEdges();
        historyStays();
        historyOfNoOrder();
        historyOfNoWhat();
        Due.end();
    }

    private static void tenQuotes() {
        Limits limits = new Limits(12, "NONE when there are 10");
        limits.maker("M0" + CHEAP);
        limits.maker("M1" + CHEAP);
        for (int i = 0; i < 10; i++) {
            limits.due(i).quote(i % 2, i);
        }
        limits.none().quote(0, 100);
        limits.none().quote(1, 100);
        // What was refused holds on no day, and has taken no other's place.
        limits.order(0, 1, 100);
        limits.due(-1).history(0, 6);
        limits.order(1, 1, 100);
        limits.due(-1).history(1, 6);
        limits.order(1, 1, 9);
        limits.due(9).history(2, 6);
        limits.order(0, 1, 0);
        limits.due(8).history(3, 6);
    }

    private static void quotesOfNoMaker() {
        Limits limits = new Limits(12, "IndexOutOfBoundsException, when there is no such MAKER");
        limits.noIndex().quote(0, 1);
        for (int told = 0; told < 4; told++) {
            limits.maker("M" + told + CHEAP);
            limits.noIndex().quote(told + 1, 1);
            limits.due(told).quote(told, 1);
        }
        for (int maker : Limits.NO_INDICES) {
            limits.noIndex().quote(maker, 1);
        }
        limits.due(4).quote(3, 1);
    }

    private static void quotesHoldTheClassesAsTheyAre() {
        Limits limits = new Limits(12, "a MAKER's CLASSES as they are hold for it");
        limits.maker("M0" + CHEAP);
        limits.quote(0, 5);
        limits.maker("M0" + DEAR);
        limits.quote(0, 3);
        limits.maker("M0" + Limits.COARSE);
        limits.order(0, 1, 5);
        limits.historyRow(0, 0, 0, 1, 1, 0, 10, 0);
        limits.order(0, 1, 3);
        limits.historyRow(1, 0, 0, 1, 2, 0, 20, 1);
        limits.due(500).price(0, 0, 1);
        // A text that is none changes nothing, quotes neither.
        limits.due(-3).maker("M0");
        limits.order(0, 1, 5);
        limits.historyRow(2, 0, 0, 1, 1, 0, 10, 0);
    }

    private static void quotesHoldAllClasses() {
        Limits limits = new Limits(12, "a MAKER's CLASSES, all with their LIMITS");
        limits.maker("M0C9,0,0,0,9,9:1@10/1;C7,0,0,0,9,9:1@20/2;C5,0,0,0,9,9:1@30/3;C3,0,0,0,9,9:1@40,7@1/4;");
        limits.quote(0, 5);
        limits.maker("M0" + Limits.ALL);
        int[] widths = {9, 8, 6, 4};
        for (int i = 0; i < 4; i++) {
            limits.thing(0, widths[i], 0);
            limits.due(i).order(0, 1, 5);
            limits.historyRow(i, 0, i, 1, i + 1, 0, 10 + 10 * i, 0);
        }
        limits.order(0, 7, 5);
        limits.historyRow(4, 0, 3, 7, 4, 0, 7, 0);
    }

    private static void quotesOfAnyDay() {
        Limits limits = new Limits(12, "until a day: any long");
        limits.maker("M0" + CHEAP);
        limits.due(0).quote(0, Long.MIN_VALUE);
        limits.order(0, 1, Long.MIN_VALUE);
        limits.due(0).history(0, 6);
        limits.order(0, 1, Long.MIN_VALUE + 1);
        limits.due(-1).history(1, 6);
        limits.due(1).quote(0, -1L << 32);
        limits.order(0, 1, -1L << 32);
        limits.due(1).history(2, 6);
        limits.order(0, 1, -1);
        limits.due(-1).history(3, 6);
        limits.due(2).quote(0, Long.MAX_VALUE - 1);
        limits.order(0, 1, Long.MAX_VALUE - 1);
        limits.due(2).history(4, 6);
        limits.order(0, 1, Long.MAX_VALUE);
        limits.due(-1).history(5, 6);
        limits.due(3).quote(0, Long.MAX_VALUE);
        limits.order(0, 1, Long.MAX_VALUE);
        limits.due(3).history(6, 6);
    }

    private static void ordersAreNumbered() {
        Limits limits = new Limits(15, "An order: its number");
        limits.maker("M0" + CHEAP);
        limits.maker("M1" + DEAR);
        limits.due(0).order(0, 1, 1);
        limits.due(1).order(1, 1, 1);
        limits.due(2).order(0, 1, 1);
        limits.due(1).history(1, 0);
        limits.due(0).history(2, 0);
    }

    private static void twentyOrders() {
        Limits limits = new Limits(15, "NONE, when there are 20");
        limits.maker("M0" + CHEAP);
        for (int i = 0; i < 20; i++) {
            limits.due(i).order(0, 1 + i, i);
        }
        limits.none().order(0, 50, 1);
        limits.none().order(0, 60, 1);
        limits.noIndex().history(20, 0);
        limits.historyRow(0, 0, 0, 1, 1, 0, 10, -1);
        limits.historyRow(18, 0, 0, 19, 1, 0, 190, -1);
        limits.historyRow(19, 0, 0, 20, 1, 0, 200, -1);
    }

    private static void ordersOfNoClass() {
        Limits limits = new Limits(15, "NONE, when no CLASS MAKES the board");
        limits.maker("M0C5,0,0,0,9,9:1@10/1;C4,0,0,0,9,9:1@20/2;");
        limits.maker("M1" + Limits.ALL);
        limits.due(0).order(0, 1, 1);
        limits.thing(0, 3, 0);
        limits.none().order(0, 1, 1);
        limits.noIndex().history(1, 0);
        limits.due(1).order(1, 1, 1);
        limits.historyRow(1, 1, 0, 1, 1, 1, 0, -1);
        limits.none().order(0, 1, 1);
    }

    private static void ordersByTheLeastClass() {
        Limits limits = new Limits(15, "the least one that MAKES it, its PRICE, its days");
        limits.maker("M0" + Limits.COARSE + Limits.FINE + "C1,0,0,0,9,9:1@1/0;" + Limits.ALL);
        limits.order(0, 10, 1);
        limits.historyRow(0, 0, 0, 10, 7, 3, 0, -1);
        limits.thing(0, 8, 0);
        limits.order(0, 4, 1);
        limits.historyRow(1, 0, 1, 4, 3, 4, 500, -1);
        limits.thing(4, 9, 0);
        limits.order(0, 4, 1);
        limits.historyRow(2, 0, 2, 4, 0, 0, 4, -1);
        limits.thing(0, 0, 0);
        limits.order(0, 4, 1);
        limits.historyRow(3, 0, 3, 4, 1, 4, 0, -1);
    }

    private static void quotesHoldOnTheirDay() {
        Limits limits = new Limits(15, "that holds on that day (until is not below it)");
        limits.maker("M0" + CHEAP);
        limits.quote(0, -5);
        long[][] due = {{-6, 0}, {-5, 0}, {-4, -1}, {0, -1}, {5, -1}, {Long.MIN_VALUE, 0}, {Long.MAX_VALUE, -1}};
        for (int i = 0; i < due.length; i++) {
            limits.order(0, 1, due[i][0]);
            limits.due(due[i][1]).history(i, 6);
        }
    }

    private static void theLatestQuoteThatHolds() {
        Limits limits = new Limits(15, "the latest quote of that MAKER that holds");
        limits.maker("M0C0,0,0,0,9,9:1@10/1;");
        limits.quote(0, 20);
        limits.maker("M0C0,0,0,0,9,9:1@20/2;");
        limits.quote(0, 30);
        limits.maker("M0C0,0,0,0,9,9:1@30/3;");
        limits.quote(0, 10);
        limits.maker("M0C0,0,0,0,9,9:1@40/4;");
        int[][] due = {{10, 3, 30, 2}, {11, 2, 20, 1}, {20, 2, 20, 1}, {30, 2, 20, 1}, {31, 4, 40, -1}};
        for (int i = 0; i < due.length; i++) {
            limits.order(0, 1, due[i][0]);
            limits.historyRow(i, 0, 0, 1, due[i][1], 0, due[i][2], due[i][3]);
        }
        // Of two with one day the later counts; a quote behind an order counts for later orders alone.
        limits.quote(0, 30);
        limits.order(0, 1, 30);
        limits.historyRow(5, 0, 0, 1, 4, 0, 40, 3);
        limits.due(1).history(3, 6);
    }

    private static void quotesOfTheirMaker() {
        Limits limits = new Limits(15, "the latest quote of that MAKER, of no other");
        limits.maker("M0" + CHEAP);
        limits.maker("M1" + DEAR);
        limits.quote(0, 5);
        limits.quote(1, 5);
        limits.maker("M0" + Limits.ALL);
        limits.maker("M1" + Limits.ALL);
        limits.order(0, 3, 5);
        limits.order(1, 3, 5);
        limits.historyRow(0, 0, 0, 3, 1, 0, 30, 0);
        limits.historyRow(1, 1, 0, 3, 2, 0, 60, 1);
        limits.maker("M2" + Limits.ALL);
        limits.order(2, 3, 5);
        limits.historyRow(2, 2, 0, 3, 1, 3, 0, -1);
    }

    private static void ordersWithoutAQuoteThatHolds() {
        Limits limits = new Limits(15, "or, without such, its own now");
        limits.maker("M0" + CHEAP);
        limits.order(0, 1, 1);
        limits.historyRow(0, 0, 0, 1, 1, 0, 10, -1);
        limits.quote(0, 4);
        limits.maker("M0" + DEAR);
        limits.order(0, 1, 5);
        limits.historyRow(1, 0, 0, 1, 2, 0, 20, -1);
        limits.order(0, 1, 4);
        limits.historyRow(2, 0, 0, 1, 1, 0, 10, 0);
    }

    private static void ordersByQuotedClassesAlone() {
        Limits limits = new Limits(15, "CLASSES are those of the latest quote, though only others MAKE the board");
        limits.maker("M0" + Limits.ALL);
        limits.quote(0, 9);
        limits.maker("M0C5,0,0,0,9,9:1@10/1;");
        limits.quote(0, 5);
        limits.maker("M0" + Limits.ALL);
        limits.thing(0, 4, 0);
        limits.none().order(0, 1, 5);
        limits.noIndex().history(0, 0);
        limits.due(0).order(0, 1, 6);
        limits.historyRow(0, 0, 0, 1, 1, 1, 0, 0);
        limits.due(1).order(0, 1, 10);
        limits.due(0).least(0);
        limits.due(0).best(1);
    }

    private static void ordersOfNoMaker() {
        Limits limits = new Limits(15, "IndexOutOfBoundsException, when there is no such MAKER");
        limits.noIndex().order(0, 1, 1);
        for (int told = 0; told < 4; told++) {
            limits.maker("M" + told + CHEAP);
            limits.noIndex().order(told + 1, 1, 1);
            limits.due(told).order(told, 1, 1);
        }
        for (int maker : Limits.NO_INDICES) {
            limits.noIndex().order(maker, 1, 1);
        }
    }

    private static void quantitiesOfOrders() {
        Limits limits = new Limits(15, "IllegalArgumentException as price()");
        limits.maker("M0" + CHEAP);
        for (long quantity : Limits.NO_QUANTITIES) {
            limits.noArgument().order(0, quantity, 1);
        }
        limits.due(0).order(0, 1, 1);
        limits.due(1).order(0, 1000000, 1);
        limits.due(1).history(0, 2);
        limits.due(1000000).history(1, 2);
    }

    private static void refusedOrders() {
        Limits limits = new Limits(15, "an order that is refused is none");
        limits.maker("M0" + CHEAP);
        limits.due(0).order(0, 1, 1);
        limits.noArgument().order(0, 0, 1);
        limits.noIndex().order(1, 1, 1);
        limits.noIndex().history(1, 0);
        limits.due(1).order(0, 2, 1);
        limits.historyRow(1, 0, 0, 2, 1, 0, 20, -1);
    }

    private static void historyOfAllParts() {
        Limits limits = new Limits(16, "its MAKER, CLASS, quantity, days, PRICE by 1,000 and modulo 1,000, quote");
        limits.maker("M0" + CHEAP);
        limits.maker("M1C9,0,0,0,9,9:1@1/1;C0,0,0,0,9,9:1@12345/67;");
        limits.thing(0, 1, 0);
        for (int i = 0; i < 4; i++) {
            limits.quote(1, 5);
        }
        limits.order(1, 89, 5);
        limits.order(0, 7, 5);
        limits.historyRow(0, 1, 1, 89, 67, 1098, 705, 3);
        limits.historyRow(1, 0, 0, 7, 1, 0, 70, -1);
    }

    private static void historyOfPrices() {
        Limits limits = new Limits(16, "PRICE by 1,000 (4) and modulo 1,000 (5)");
        limits.maker("M0C0,0,0,0,9,9:1@1/1;");
        int[] prices = {1, 999, 1000, 1001, 1999, 2000, 999999, 1000000};
        for (int i = 0; i < prices.length; i++) {
            limits.order(0, prices[i], 1);
            limits.due(prices[i] / 1000).history(i, 4);
            limits.due(prices[i] % 1000).history(i, 5);
        }
    }

    private static void historyOfEdges() {
        Limits limits = new Limits(16, "the greatest PRICE and the ends of days");
        limits.maker("M0C0,0,0,0,9,9:1000000@1000000/1000;");
        limits.maker("M1C0,0,0,0,9,9:1@999999/0;");
        limits.maker("M2" + CHEAP);
        limits.maker("M3" + CHEAP.repeat(4));
        limits.order(0, 1, 1);
        limits.historyRow(0, 0, 0, 1, 1000, 1000000000, 0, -1);
        limits.order(1, 999999, 1);
        limits.historyRow(1, 1, 0, 999999, 0, 999998000, 1, -1);
        for (int i = 0; i < 10; i++) {
            limits.quote(3, 1);
        }
        limits.order(3, 1000000, 1);
        limits.historyRow(2, 3, 0, 1000000, 1, 10000, 0, 9);
    }

    private static void historyStays() {
        Limits limits = new Limits(16, "Of the k-th order, as it was made");
        limits.maker("M0" + Limits.COARSE);
        limits.order(0, 9, 1);
        limits.maker("M0" + Limits.FINE);
        limits.thing(0, 0, 0);
        limits.quote(0, 9);
        limits.maker("M1" + Limits.ALL);
        limits.order(1, 1, 1);
        limits.historyRow(0, 0, 0, 9, 7, 4, 500, -1);
    }

    private static void historyOfNoOrder() {
        Limits limits = new Limits(16, "IndexOutOfBoundsException, when there is none such");
        limits.maker("M0" + CHEAP);
        for (int k = 0; k < 20; k++) {
            limits.noIndex().history(k, 0);
            limits.noIndex().history(k, 6);
            limits.order(0, 1, 1);
            limits.due(0).history(k, 0);
            limits.due(-1).history(k, 6);
        }
        limits.noIndex().history(20, 0);
        for (int k : Limits.NO_INDICES) {
            limits.noIndex().history(k, 0);
            limits.noIndex().history(k, 6);
        }
    }

    private static void historyOfNoWhat() {
        Limits limits = new Limits(16, "IndexOutOfBoundsException, when there is no such what");
        limits.maker("M0" + CHEAP);
        for (int k = 0; k < 20; k++) {
            limits.order(0, 1, 1);
        }
        for (int k = 0; k < 20; k++) {
            limits.noIndex().history(k, 7);
            limits.noIndex().history(k, -1);
        }
        for (int what : Limits.NO_INDICES) {
            limits.noIndex().history(0, what);
            limits.noIndex().history(19, what);
        }
        limits.noIndex().history(20, 7);
    }
}
