/** Promises 11 and 13: balance() and copper(). */
public final class CopperTest {
    public static void main(String[] args) {
        copperIsToldOtherwise();
        copperThatCanNotBe();
        balanceOfAFewCells();
        balanceInLowestTerms();
        layersAreApart();
        balanceOfNoCell();
        Due.end();
    }

    private static void copperIsToldOtherwise() {
        MakingLimits limits = new MakingLimits();
        Due.same("copper(0, 0, 0, 1) at first", false, () -> limits.copper(0, 0, 0, 1));
        Due.same("copper(0, 0, 1, 2)", true, () -> limits.copper(0, 0, 1, 2));
        Due.same("copper(0, 0, 1, 2) again", false, () -> limits.copper(0, 0, 1, 2));
        Due.same("copper(0, 0, 2, 4): the same, told otherwise", true, () -> limits.copper(0, 0, 2, 4));
        Due.same("copper(0, 0, 2, 5)", true, () -> limits.copper(0, 0, 2, 5));
        Due.same("copper(0, 0, 3, 5)", true, () -> limits.copper(0, 0, 3, 5));
        Due.same("copper(7, 15, 10, 10)", true, () -> limits.copper(7, 15, 10, 10));
        Due.same("copper(7, 15, 10, 10) again", false, () -> limits.copper(7, 15, 10, 10));
        Due.same("copper(0, 15, 0, 1) at first", false, () -> limits.copper(0, 15, 0, 1));
        Due.same("copper(0, 0, 3, 5) again", false, () -> limits.copper(0, 0, 3, 5));
    }

    private static void copperThatCanNotBe() {
        MakingLimits limits = new MakingLimits();
        limits.copper(2, 3, 1, 3);
        for (int layer : new int[] {-1, 8, Integer.MIN_VALUE, Integer.MAX_VALUE}) {
            Due.noIndex("copper(" + layer + ", 0, 1, 1)", () -> limits.copper(layer, 0, 1, 1));
            Due.noIndex("copper(" + layer + ", 0, 1, 0)", () -> limits.copper(layer, 0, 1, 0));
        }
        for (int cell : new int[] {-1, 16, Integer.MIN_VALUE, Integer.MAX_VALUE}) {
            Due.noIndex("copper(0, " + cell + ", 1, 1)", () -> limits.copper(0, cell, 1, 1));
            Due.noIndex("copper(0, " + cell + ", 1, 0)", () -> limits.copper(0, cell, 1, 0));
        }
        for (long below : new long[] {0, -1, 11, (1L << 32) + 1, Long.MIN_VALUE, Long.MAX_VALUE}) {
            Due.noArgument("copper(2, 3, 0, " + below + ")", () -> limits.copper(2, 3, 0, below));
        }
        for (long above : new long[] {-1, 4, 1L << 32, Long.MIN_VALUE, Long.MAX_VALUE}) {
            Due.noArgument("copper(2, 3, " + above + ", 3)", () -> limits.copper(2, 3, above, 3));
        }
        Due.same("copper(2, 3, 1, 3) after wrong ones", false, () -> limits.copper(2, 3, 1, 3));
        Due.same("copper(2, 3, 3, 3)", true, () -> limits.copper(2, 3, 3, 3));
        Due.same("copper(2, 3, 0, 10)", true, () -> limits.copper(2, 3, 0, 10));
    }

    private static void balanceOfAFewCells() {
        MakingLimits limits = new MakingLimits();
        limits.copper(0, 0, 1, 2);
        limits.copper(0, 1, 2, 3);
        fraction(limits, 0, 0, 41, 96);
        fraction(limits, 0, 1, 19, 32);
        fraction(limits, 0, 15, -7, 96);
        limits.copper(0, 1, 0, 3);
        fraction(limits, 0, 0, 15, 32);
        fraction(limits, 0, 1, -1, 32);
        limits.copper(0, 0, 10, 10);
        fraction(limits, 0, 0, 15, 16);
        fraction(limits, 0, 1, -1, 16);
    }

    private static void balanceInLowestTerms() {
        MakingLimits limits = new MakingLimits();
        for (int cell = 0; cell < 16; cell++) {
            limits.copper(4, cell, 1, 2);
        }
        fraction(limits, 4, 9, 0, 1);
        limits.copper(4, 9, 5, 10);
        fraction(limits, 4, 9, 0, 1);
        limits.copper(4, 9, 1, 1);
        fraction(limits, 4, 9, 15, 32);
        fraction(limits, 4, 8, -1, 32);
        for (int cell = 0; cell < 10; cell++) {
            limits.copper(5, cell, 1, cell + 1);
        }
        // The sum of 1/1 .. 1/10 is 7381/2520.
        fraction(limits, 5, 0, 16 * 2520 - 7381, 40320);
        fraction(limits, 5, 10, -7381, 40320);
        fraction(limits, 5, 6, 16 * 360 - 7381, 40320);
        for (int cell = 0; cell < 8; cell++) {
            limits.copper(6, cell, 1, 1);
        }
        fraction(limits, 6, 0, 1, 2);
        fraction(limits, 6, 8, -1, 2);
        for (int cell = 0; cell < 15; cell++) {
            limits.copper(7, cell, 7, 7);
        }
        fraction(limits, 7, 15, -15, 16);
    }

    private static void layersAreApart() {
        MakingLimits limits = new MakingLimits();
        limits.copper(3, 15, 1, 1);
        fraction(limits, 2, 15, 0, 1);
        fraction(limits, 4, 0, 0, 1);
        fraction(limits, 3, 15, 15, 16);
        fraction(limits, 3, 0, -1, 16);
    }

    private static void balanceOfNoCell() {
        MakingLimits limits = new MakingLimits();
        for (int wrong : new int[] {-1, 16, Integer.MIN_VALUE, Integer.MAX_VALUE}) {
            Due.noIndex("balance(" + wrong + ", 0, 0)", () -> limits.balance(wrong, 0, 0));
            Due.noIndex("balance(0, " + wrong + ", 0)", () -> limits.balance(0, wrong, 0));
            Due.noIndex("balance(0, 0, " + wrong + ")", () -> limits.balance(0, 0, wrong));
        }
        Due.noIndex("balance(8, 0, 0)", () -> limits.balance(8, 0, 0));
        Due.noIndex("balance(0, 0, 2)", () -> limits.balance(0, 0, 2));
        fraction(limits, 7, 15, 0, 1);
    }

    private static void fraction(MakingLimits limits, int layer, int cell, long above, long below) {
        Due.same("balance(" + layer + ", " + cell + ", 0)", above, () -> limits.balance(layer, cell, 0));
        Due.same("balance(" + layer + ", " + cell + ", 1)", below, () -> limits.balance(layer, cell, 1));
    }
}
