/** Promises 9, 10 and 14: price(), share() and best(). */
public final class PriceTest {
    public static void main(String[] args) {
        pricesByTheirSteps();
        pricesOfOneStep();
        pricesBelowTheFirstStep();
        pricesOfTheGreatestNumbers();
        pricesOfNoMaker();
        pricesOfNoClass();
        quantitiesOfPrices();
        sharesCutDown();
        sharesOneMore();
        sharesOfFewCents();
        sharesOfOne();
        sharesOfManyCents();
        sharesOfAMillion();
        sharesOfNoIndex();
        sharesOfNoQuantity();
        sharesOfNoCents();
        bestHasTheLowestPrice();
        bestOfSeveralIsTheLowest();
        bestByTheLeastClass();
        bestMakesTheBoard();
        bestIsNone();
        bestByPricesBelowTheFirstStep();
        bestByTheClassesNow();
        quantitiesOfBest();
        Due.end();
    }

    private static void pricesByTheirSteps() {
        Limits limits = new Limits(9, "by the STEP with the greatest from that is not above the quantity");
        limits.maker("M0C0,0,0,0,0,0:1@500,10@300,20@400,100@7/1;");
        long[][] due = {{1, 500}, {2, 1000}, {9, 4500}, {10, 3000}, {11, 3300}, {19, 5700}, {20, 8000}, {21, 8400},
            {99, 39600}, {100, 700}, {101, 707}, {1000000, 7000000}};
        for (long[] row : due) {
            limits.due(row[1]).price(0, 0, row[0]);
        }
    }

    private static void pricesOfOneStep() {
        Limits limits = new Limits(9, "quantity * cents, of one STEP");
        limits.maker("M0" + Limits.FINE + "C0,0,0,0,0,0:1@3/1;");
        limits.due(3).price(0, 1, 1);
        limits.due(3000000).price(0, 1, 1000000);
        limits.due(4500).price(0, 0, 5);
        limits.due(5400).price(0, 0, 6);
    }

    private static void pricesBelowTheFirstStep() {
        Limits limits = new Limits(9, "when there is none such: from * cents of the first STEP");
        limits.maker("M0C0,0,0,0,0,0:5@900,6@10/1;C0,0,0,0,0,0:1000000@2/1;");
        limits.due(4500).price(0, 0, 1);
        limits.due(4500).price(0, 0, 4);
        limits.due(4500).price(0, 0, 5);
        limits.due(60).price(0, 0, 6);
        limits.due(2000000).price(0, 1, 1);
        limits.due(2000000).price(0, 1, 999999);
        limits.due(2000000).price(0, 1, 1000000);
    }

    private static void pricesOfTheGreatestNumbers() {
        Limits limits = new Limits(9, "a PRICE that no int holds");
        limits.maker("M0C0,0,0,0,0,0:1000000@1000000/1;C0,0,0,0,0,0:1@999999,999999@1000000/1;");
        limits.due(1000000000000L).price(0, 0, 1);
        limits.due(1000000000000L).price(0, 0, 1000000);
        limits.due(999997000002L).price(0, 1, 999998);
        limits.due(999999000000L).price(0, 1, 999999);
        limits.due(2147997852L).price(0, 1, 2148);
    }

    private static void pricesOfNoMaker() {
        Limits limits = new Limits(9, "IndexOutOfBoundsException, when there is no such MAKER");
        limits.noIndex().price(0, 0, 1);
        for (int told = 0; told < 4; told++) {
            limits.maker("M" + told + Limits.COARSE);
            limits.due(500).price(told, 0, 1);
            limits.noIndex().price(told + 1, 0, 1);
        }
        for (int maker : Limits.NO_INDICES) {
            limits.noIndex().price(maker, 0, 1);
        }
    }

    private static void pricesOfNoClass() {
        Limits limits = new Limits(9, "IndexOutOfBoundsException, when there is no such CLASS");
        limits.maker("M0" + Limits.COARSE);
        limits.maker("M1" + Limits.COARSE.repeat(4));
        limits.due(500).price(1, 3, 1);
        for (int cls = 1; cls < 4; cls++) {
            limits.noIndex().price(0, cls, 1);
        }
        limits.noIndex().price(1, 4, 1);
        for (int cls : Limits.NO_INDICES) {
            limits.noIndex().price(0, cls, 1);
            limits.noIndex().price(1, cls, 1);
        }
    }

    private static void quantitiesOfPrices() {
        Limits limits = new Limits(9, "IllegalArgumentException, when quantity is not 1 .. 1,000,000");
        limits.maker("M0" + Limits.ALL);
        limits.due(1000).price(0, 0, 1);
        limits.due(1000000000).price(0, 0, 1000000);
        for (long quantity : Limits.NO_QUANTITIES) {
            limits.noArgument().price(0, 0, quantity);
        }
    }

    private static void sharesCutDown() {
        Limits limits = new Limits(10, "each cents / quantity, cut down");
        limits.due(5).share(15, 3, 0);
        limits.due(5).share(15, 3, 2);
        limits.due(5).share(17, 3, 2);
        limits.due(4).share(14, 3, 2);
        limits.due(0).share(0, 3, 0);
        limits.due(0).share(0, 3, 2);
    }

    /** Dealt out one by one, which is another way than the document's division. */
    private static void sharesOneMore() {
        for (int quantity = 1; quantity <= 8; quantity++) {
            Limits limits = new Limits(10, "the first ones 1 more, as many as are left over");
            long[] shares = new long[quantity];
            for (int cents = 0; cents < 50; cents++) {
                for (int k = 0; k < quantity; k++) {
                    limits.due(shares[k]).share(cents, quantity, k);
                }
                shares[cents % quantity]++;
            }
        }
    }

    private static void sharesOfFewCents() {
        Limits limits = new Limits(10, "cents fewer than shares");
        limits.due(1).share(2, 3, 0);
        limits.due(1).share(2, 3, 1);
        limits.due(0).share(2, 3, 2);
        limits.due(0).share(0, 1000000, 0);
        limits.due(1).share(1, 1000000, 0);
        limits.due(0).share(1, 1000000, 1);
        limits.due(1).share(999999, 1000000, 999998);
        limits.due(0).share(999999, 1000000, 999999);
    }

    private static void sharesOfOne() {
        Limits limits = new Limits(10, "one share has all cents");
        limits.due(0).share(0, 1, 0);
        limits.due(7).share(7, 1, 0);
        limits.noIndex().share(7, 1, 1);
    }

    private static void sharesOfManyCents() {
        Limits limits = new Limits(10, "cents up to the greatest long");
        long most = Long.MAX_VALUE;
        limits.due(most).share(most, 1, 0);
        limits.due(4611686018427387904L).share(most, 2, 0);
        limits.due(4611686018427387903L).share(most, 2, 1);
        // 9,223,372,036,854,775,807 is 9,223,372,036,854 times a million, and 775,807 are left over.
        limits.due(9223372036855L).share(most, 1000000, 0);
        limits.due(9223372036855L).share(most, 1000000, 775806);
        limits.due(9223372036854L).share(most, 1000000, 775807);
        limits.due(9223372036854L).share(most, 1000000, 999999);
    }

    private static void sharesOfAMillion() {
        Limits limits = new Limits(10, "quantity up to 1,000,000");
        limits.due(1).share(1000000, 1000000, 0);
        limits.due(1).share(1000000, 1000000, 999999);
        limits.due(2).share(1000001, 1000000, 0);
        limits.due(1).share(1000001, 1000000, 1);
    }

    private static void sharesOfNoIndex() {
        Limits limits = new Limits(10, "IndexOutOfBoundsException, when k is not 0 .. quantity - 1");
        limits.due(3).share(10, 3, 2);
        limits.noIndex().share(10, 3, 3);
        limits.noIndex().share(10, 3, 4);
        for (int k : Limits.NO_INDICES) {
            limits.noIndex().share(10, 3, k);
        }
        limits.noIndex().share(10, 1000000, 1000000);
        limits.noIndex().share(0, 1, 1);
    }

    private static void sharesOfNoQuantity() {
        Limits limits = new Limits(10, "IllegalArgumentException, ahead of it, when quantity is not 1 .. 1,000,000");
        for (long quantity : Limits.NO_QUANTITIES) {
            limits.noArgument().share(10, quantity, 0);
            limits.noArgument().share(10, quantity, -1);
            limits.noArgument().share(10, quantity, Integer.MAX_VALUE);
            limits.noArgument().share(-1, quantity, 0);
        }
        limits.noArgument().share(10, 1000001, 1000000);
    }

    private static void sharesOfNoCents() {
        Limits limits = new Limits(10, "IllegalArgumentException, ahead of it, when cents below 0");
        for (long cents : new long[] {-1, -1000000, -(1L << 32) + 5, Long.MIN_VALUE}) {
            limits.noArgument().share(cents, 1, 0);
            limits.noArgument().share(cents, 3, -1);
            limits.noArgument().share(cents, 3, 3);
        }
        limits.due(0).share(0, 1, 0);
    }

    private static void bestHasTheLowestPrice() {
        Limits limits = new Limits(14, "the one whose least such one has the lowest PRICE");
        limits.maker("M0C0,0,0,0,9,9:1@30/1;");
        limits.maker("M1C0,0,0,0,9,9:1@40,100@10/1;");
        limits.maker("M2C0,0,0,0,9,9:1@29,2@50/1;");
        limits.maker("M3C0,0,0,0,9,9:1@50,1000@9/1;");
        limits.due(2).best(1);
        limits.due(0).best(2);
        limits.due(0).best(99);
        limits.due(1).best(100);
        limits.due(1).best(999);
        limits.due(3).best(1000);
        limits.due(3).best(1000000);
    }

    private static void bestOfSeveralIsTheLowest() {
        Limits limits = new Limits(14, "of several the lowest");
        limits.maker("M0C0,0,0,0,9,9:1@31/1;");
        limits.maker("M1C0,0,0,0,9,9:1@30/9;");
        limits.maker("M2C0,0,0,0,9,9:1@30/1;");
        limits.maker("M3C0,0,0,0,9,9:1@30/1;");
        limits.due(1).best(1);
        limits.maker("M0C0,0,0,0,9,9:1@30/1;");
        limits.due(0).best(1);
    }

    private static void bestByTheLeastClass() {
        Limits limits = new Limits(14, "whose least such one: no other CLASS counts");
        limits.maker("M0C0,0,0,0,9,9:1@60/1;C0,0,0,0,9,9:1@1/1;");
        limits.maker("M1C0,0,0,0,9,9:1@50/1;");
        limits.due(1).best(1);
        limits.maker("M1C9,0,0,0,9,9:1@1/1;C0,0,0,0,9,9:1@61/1;");
        limits.due(1).best(1);
        limits.thing(0, 8, 0);
        limits.due(0).best(1);
    }

    private static void bestMakesTheBoard() {
        Limits limits = new Limits(14, "Of MAKERS that have a CLASS that MAKES the board");
        limits.maker("M0C10,0,0,0,9,9:1@1/1;");
        limits.maker("M1C5,0,0,0,9,9:1@2/1;");
        limits.maker("M2C3,0,0,0,9,9:1@3/1;");
        limits.due(0).best(1);
        limits.thing(0, 10, 0);
        limits.due(0).best(1);
        limits.thing(0, 9, 0);
        limits.due(1).best(1);
        limits.thing(0, 4, 0);
        limits.due(2).best(1);
    }

    private static void bestIsNone() {
        Limits limits = new Limits(14, "best: NONE");
        limits.none().best(1);
        limits.thing(0, 4, 0);
        limits.none().best(1000000);
        limits.maker("M0C5,0,0,0,9,9:1@1/1;");
        limits.maker("M1C9,0,0,0,9,9:1@1/1;");
        limits.none().best(1);
        limits.maker("M2" + Limits.ALL);
        limits.due(2).best(1);
    }

    private static void bestByPricesBelowTheFirstStep() {
        Limits limits = new Limits(14, "the lowest PRICE, where no STEP's from is so low");
        limits.maker("M0C0,0,0,0,9,9:10@1/1;");
        limits.maker("M1C0,0,0,0,9,9:1@4/1;");
        limits.due(1).best(1);
        limits.due(1).best(2);
        limits.due(0).best(3);
        limits.maker("M0C0,0,0,0,9,9:1000000@1000000/1;");
        limits.maker("M1C0,0,0,0,9,9:999999@1000000/1;");
        limits.due(1).best(1);
    }

    private static void bestByTheClassesNow() {
        Limits limits = new Limits(14, "best: a MAKER's CLASSES, not a quote's");
        limits.maker("M0C0,0,0,0,9,9:1@60/1;");
        limits.maker("M1C0,0,0,0,9,9:1@50/1;");
        limits.quote(1, Long.MAX_VALUE);
        limits.maker("M1C0,0,0,0,9,9:1@70/1;");
        limits.due(0).best(1);
    }

    private static void quantitiesOfBest() {
        Limits limits = new Limits(14, "IllegalArgumentException as price()");
        for (long quantity : Limits.NO_QUANTITIES) {
            limits.noArgument().best(quantity);
        }
        limits.maker("M0" + Limits.ALL);
        for (long quantity : Limits.NO_QUANTITIES) {
            limits.noArgument().best(quantity);
        }
        limits.due(0).best(1);
        limits.due(0).best(1000000);
    }
}
