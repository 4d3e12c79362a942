/** Promises 9, 10 and 14: price(), share() and best(). */
public final class PriceTest {
    private static final long[] NO_QUANTITIES = {0, -1, 1000001, 1L << 32, Long.MIN_VALUE, Long.MAX_VALUE};

    public static void main(String[] args) {
        pricesByTheirSteps();
        pricesBelowTheFirstStep();
        pricesAreLong();
        pricesThatAreNone();
        sharesToTheCent();
        sharesOfManyCents();
        sharesThatAreNone();
        bestMaker();
        bestByTheLeastClassAlone();
        bestKnowsNoQuote();
        bestOfWrongQuantities();
        Due.end();
    }

    private static void pricesByTheirSteps() {
        MakingLimits limits = new MakingLimits();
        Texts.maker(limits, "M0C0,0,0,0,0,0:1@500,10@300,20@400,100@7/1;");
        long[][] due = {{1, 500}, {9, 4500}, {10, 3000}, {19, 5700}, {20, 8000}, {99, 39600}, {100, 700},
            {101, 707}, {1000000, 7000000}};
        for (long[] row : due) {
            Due.same("price(0, 0, " + row[0] + ")", row[1], () -> limits.price(0, 0, row[0]));
        }
    }

    private static void pricesBelowTheFirstStep() {
        MakingLimits limits = new MakingLimits();
        Texts.maker(limits, "M0" + Texts.COARSE + "C0,0,0,0,0,0:5@900,6@10/1;");
        Due.same("price(0, 1, 1)", 4500, () -> limits.price(0, 1, 1));
        Due.same("price(0, 1, 4)", 4500, () -> limits.price(0, 1, 4));
        Due.same("price(0, 1, 5)", 4500, () -> limits.price(0, 1, 5));
        Due.same("price(0, 1, 6)", 60, () -> limits.price(0, 1, 6));
        Due.same("price(0, 0, 1)", 500, () -> limits.price(0, 0, 1));
    }

    private static void pricesAreLong() {
        MakingLimits limits = new MakingLimits();
        Texts.maker(limits, "M0C0,0,0,0,0,0:1000000@1000000/1;C0,0,0,0,0,0:1@999999/1;");
        Due.same("price(0, 0, 1)", 1000000000000L, () -> limits.price(0, 0, 1));
        Due.same("price(0, 0, 1000000)", 1000000000000L, () -> limits.price(0, 0, 1000000));
        Due.same("price(0, 1, 999999)", 999998000001L, () -> limits.price(0, 1, 999999));
    }

    private static void pricesThatAreNone() {
        MakingLimits limits = new MakingLimits();
        Texts.maker(limits, "M0" + Texts.COARSE + Texts.FINE);
        for (int maker : new int[] {-1, 1, 3, 4, Integer.MIN_VALUE, Integer.MAX_VALUE}) {
            Due.noIndex("price(" + maker + ", 0, 1)", () -> limits.price(maker, 0, 1));
            Due.noIndex("price(" + maker + ", 0, 0)", () -> limits.price(maker, 0, 0));
        }
        for (int cls : new int[] {-1, 2, 4, Integer.MIN_VALUE, Integer.MAX_VALUE}) {
            Due.noIndex("price(0, " + cls + ", 1)", () -> limits.price(0, cls, 1));
            Due.noIndex("price(0, " + cls + ", 0)", () -> limits.price(0, cls, 0));
        }
        for (long quantity : NO_QUANTITIES) {
            Due.noArgument("price(0, 1, " + quantity + ")", () -> limits.price(0, 1, quantity));
        }
    }

    private static void sharesToTheCent() {
        MakingLimits limits = new MakingLimits();
        for (int cents = 0; cents < 40; cents++) {
            for (int quantity = 1; quantity < 12; quantity++) {
                sharesOf(limits, cents, quantity);
            }
        }
    }

    private static void sharesOf(MakingLimits limits, int cents, int quantity) {
        long[] shares = new long[quantity];
        // Dealt out one by one, which is another way than the document's division.
        for (int i = 0; i < cents; i++) {
            shares[i % quantity]++;
        }
        for (int i = 0; i < quantity; i++) {
            int k = i;
            Due.same("share(" + cents + ", " + quantity + ", " + k + ")", shares[k],
                    () -> limits.share(cents, quantity, k));
        }
    }

    private static void sharesOfManyCents() {
        MakingLimits limits = new MakingLimits();
        long most = Long.MAX_VALUE;
        Due.same("all of the most cents", most, () -> limits.share(most, 1, 0));
        Due.same("the first half", 4611686018427387904L, () -> limits.share(most, 2, 0));
        Due.same("the second half", 4611686018427387903L, () -> limits.share(most, 2, 1));
        Due.same("share(999999, 1000000, 999998)", 1, () -> limits.share(999999, 1000000, 999998));
        Due.same("share(999999, 1000000, 999999)", 0, () -> limits.share(999999, 1000000, 999999));
        Due.same("share(0, 1000000, 0)", 0, () -> limits.share(0, 1000000, 0));
    }

    private static void sharesThatAreNone() {
        MakingLimits limits = new MakingLimits();
        for (long quantity : NO_QUANTITIES) {
            Due.noArgument("share(1, " + quantity + ", 0)", () -> limits.share(1, quantity, 0));
            Due.noArgument("share(1, " + quantity + ", -1)", () -> limits.share(1, quantity, -1));
        }
        for (long cents : new long[] {-1, Long.MIN_VALUE}) {
            Due.noArgument("share(" + cents + ", 1, 0)", () -> limits.share(cents, 1, 0));
            Due.noArgument("share(" + cents + ", 1, 1)", () -> limits.share(cents, 1, 1));
        }
        for (int k : new int[] {-1, 3, 4, Integer.MIN_VALUE, Integer.MAX_VALUE}) {
            Due.noIndex("share(10, 3, " + k + ")", () -> limits.share(10, 3, k));
        }
        Due.noIndex("share(10, 1000000, 1000000)", () -> limits.share(10, 1000000, 1000000));
    }

    private static void bestMaker() {
        MakingLimits limits = new MakingLimits();
        Due.same("best(1) without makers", -1, () -> limits.best(1));
        Texts.maker(limits, "M0C10,0,0,0,9,9:1@30/1;");
        Texts.maker(limits, "M1C5,0,0,0,9,9:1@40,100@10/1;");
        Texts.maker(limits, "M2C5,0,0,0,9,9:1@40,100@10/1;");
        Texts.maker(limits, "M3C0,0,0,0,9,9:1@50,1000@9/1;");
        Due.same("best(1)", 0, () -> limits.best(1));
        Due.same("best(100), of two the lowest", 1, () -> limits.best(100));
        Due.same("best(1000)", 3, () -> limits.best(1000));
        limits.thing(0, 7, 0);
        Due.same("best(1) of width 7", 1, () -> limits.best(1));
        limits.thing(0, 3, 0);
        Due.same("best(1) of width 3", 3, () -> limits.best(1));
        limits.thing(4, 10, 0);
        Due.same("best(1) of 10 layers", -1, () -> limits.best(1));
    }

    private static void bestByTheLeastClassAlone() {
        MakingLimits limits = new MakingLimits();
        Texts.maker(limits, "M0C0,0,0,0,9,9:1@60/1;C0,0,0,0,9,9:1@1/1;");
        Texts.maker(limits, "M1C0,0,0,0,9,9:1@50/1;");
        Due.same("best(1): a higher class that is cheaper does not count", 1, () -> limits.best(1));
        Texts.maker(limits, "M1C9,0,0,0,9,9:1@1/1;C0,0,0,0,9,9:1@61/1;");
        limits.thing(0, 8, 0);
        Due.same("best(1): a lower class that does not make it does not count", 0, () -> limits.best(1));
    }

    private static void bestKnowsNoQuote() {
        MakingLimits limits = new MakingLimits();
        Texts.maker(limits, "M0C0,0,0,0,9,9:1@60/1;");
        Texts.maker(limits, "M1C0,0,0,0,9,9:1@50/1;");
        limits.quote(1, Long.MAX_VALUE);
        Texts.maker(limits, "M1C0,0,0,0,9,9:1@70/1;");
        Due.same("best(1) with a cheaper quote", 0, () -> limits.best(1));
    }

    private static void bestOfWrongQuantities() {
        MakingLimits limits = new MakingLimits();
        for (long quantity : NO_QUANTITIES) {
            Due.noArgument("best(" + quantity + ") without makers", () -> limits.best(quantity));
        }
        Texts.maker(limits, "M0" + Texts.ALL);
        for (long quantity : NO_QUANTITIES) {
            Due.noArgument("best(" + quantity + ")", () -> limits.best(quantity));
        }
        Due.same("best(1)", 0, () -> limits.best(1));
        Due.same("best(1000000)", 0, () -> limits.best(1000000));
    }
}
