/** Promises 11 and 13: balance() and copper(). */
public final class CopperTest {
    public static void main(String[] args) {
        balanceOfAFewCells();
        balanceOfEqualCells();
        balanceOfLessCopper();
        balanceInLowestTerms();
        balanceOfAllBelows();
        balanceOfItsLayerAlone();
        balanceOfNoLayer();
        balanceOfNoCell();
        balanceOfNoPart();
        copperIsToldOtherwise();
        copperOfTheCellAlone();
        copperOfNoLayer();
        copperOfNoCell();
        copperBelow();
        copperAbove();
        refusedCopper();
        Due.end();
    }

    private static void balanceOfAFewCells() {
        Limits limits = new Limits(11, "more than the mean of all 16 of that layer");
        limits.copper(0, 0, 1, 2);
        limits.copper(0, 1, 2, 3);
        limits.balanceRow(0, 0, 41, 96);
        limits.balanceRow(0, 1, 19, 32);
        limits.balanceRow(0, 15, -7, 96);
        limits.copper(0, 1, 0, 3);
        limits.balanceRow(0, 0, 15, 32);
        limits.balanceRow(0, 1, -1, 32);
        int[][] due = {{15, 16}, {7, 8}, {13, 16}, {3, 4}, {11, 16}, {5, 8}, {9, 16}, {1, 2}, {7, 16}, {3, 8},
            {5, 16}, {1, 4}, {3, 16}, {1, 8}, {1, 16}, {0, 1}};
        for (int cell = 0; cell < 16; cell++) {
            limits.copper(7, cell, 1, 1);
            limits.balanceRow(7, cell, due[cell][0], due[cell][1]);
        }
    }

    private static void balanceOfEqualCells() {
        Limits limits = new Limits(11, "as much as the mean: 0 / 1");
        limits.balanceRow(4, 9, 0, 1);
        for (int cell = 0; cell < 16; cell++) {
            limits.copper(4, cell, 1, 2);
        }
        limits.balanceRow(4, 9, 0, 1);
        // The same copper by another fraction.
        limits.copper(4, 9, 5, 10);
        limits.balanceRow(4, 9, 0, 1);
        limits.balanceRow(4, 0, 0, 1);
        for (int cell = 0; cell < 16; cell++) {
            limits.copper(4, cell, 10, 10);
        }
        limits.balanceRow(4, 15, 0, 1);
    }

    private static void balanceOfLessCopper() {
        Limits limits = new Limits(11, "above (below 0, when it is less) or below (at least 1)");
        for (int cell = 0; cell < 15; cell++) {
            limits.copper(7, cell, 7, 7);
        }
        limits.balanceRow(7, 15, -15, 16);
        limits.balanceRow(7, 14, 1, 16);
        limits.copper(7, 15, 9, 10);
        limits.balanceRow(7, 15, -3, 32);
        limits.balanceRow(7, 0, 1, 160);
    }

    private static void balanceInLowestTerms() {
        Limits limits = new Limits(11, "as a fraction in lowest terms");
        for (int cell = 0; cell < 8; cell++) {
            limits.copper(6, cell, 1, 1);
        }
        limits.balanceRow(6, 0, 1, 2);
        limits.balanceRow(6, 8, -1, 2);
        for (int cell = 0; cell < 4; cell++) {
            limits.copper(5, cell, 6, 9);
        }
        limits.balanceRow(5, 0, 1, 2);
        limits.balanceRow(5, 4, -1, 6);
        limits.copper(5, 0, 4, 6);
        limits.balanceRow(5, 0, 1, 2);
        limits.copper(5, 4, 1, 6);
        limits.balanceRow(5, 4, -1, 96);
    }

    private static void balanceOfAllBelows() {
        Limits limits = new Limits(11, "the copper of a cell, by every below");
        for (int cell = 0; cell < 10; cell++) {
            limits.copper(5, cell, 1, cell + 1);
        }
        // The sum of 1/1 .. 1/10 is 7381/2520.
        limits.balanceRow(5, 0, 16 * 2520 - 7381, 40320);
        limits.balanceRow(5, 10, -7381, 40320);
        limits.balanceRow(5, 6, 16 * 360 - 7381, 40320);
        limits.balanceRow(5, 9, 16 * 252 - 7381, 40320);
        for (int below = 1; below <= 10; below++) {
            for (int cell = 0; cell < 16; cell++) {
                limits.copper(0, cell, 0, 1);
            }
            limits.copper(0, 3, below, below);
            limits.balanceRow(0, 3, 15, 16);
            limits.balanceRow(0, 4, -1, 16);
        }
    }

    private static void balanceOfItsLayerAlone() {
        Limits limits = new Limits(11, "of that layer");
        limits.copper(3, 15, 1, 1);
        limits.balanceRow(2, 15, 0, 1);
        limits.balanceRow(4, 0, 0, 1);
        limits.balanceRow(3, 15, 15, 16);
        limits.balanceRow(3, 0, -1, 16);
        limits.copper(4, 0, 1, 2);
        limits.balanceRow(3, 15, 15, 16);
        limits.copper(7, 15, 1, 1);
        limits.copper(0, 0, 1, 1);
        limits.balanceRow(7, 15, 15, 16);
        limits.balanceRow(0, 0, 15, 16);
    }

    private static void balanceOfNoLayer() {
        Limits limits = new Limits(11, "IndexOutOfBoundsException, when there is no such layer");
        limits.balanceRow(7, 0, 0, 1);
        limits.noIndex().balance(8, 0, 0);
        for (int layer : Limits.NO_INDICES) {
            limits.noIndex().balance(layer, 0, 0);
            limits.noIndex().balance(layer, 0, 1);
        }
    }

    private static void balanceOfNoCell() {
        Limits limits = new Limits(11, "IndexOutOfBoundsException, when there is no such cell");
        limits.balanceRow(0, 15, 0, 1);
        for (int layer = 0; layer < 8; layer++) {
            limits.noIndex().balance(layer, 16, 0);
            limits.noIndex().balance(layer, -1, 1);
        }
        for (int cell : Limits.NO_INDICES) {
            limits.noIndex().balance(0, cell, 0);
            limits.noIndex().balance(7, cell, 1);
        }
    }

    private static void balanceOfNoPart() {
        Limits limits = new Limits(11, "IndexOutOfBoundsException, when there is no such part");
        limits.noIndex().balance(0, 0, 2);
        for (int part : Limits.NO_INDICES) {
            limits.noIndex().balance(0, 0, part);
        }
    }

    private static void copperIsToldOtherwise() {
        Limits limits = new Limits(13, "whether it was told otherwise");
        limits.due(true).copper(0, 0, 1, 2);
        limits.due(false).copper(0, 0, 1, 2);
        limits.due(true).copper(0, 0, 2, 5);
        limits.due(true).copper(0, 0, 3, 5);
        limits.due(false).copper(0, 0, 3, 5);
        limits.due(true).copper(0, 0, 3, 4);
        limits.due(true).copper(0, 0, 1, 2);
        limits.due(true).copper(0, 0, 0, 1);
        limits.due(false).copper(0, 0, 0, 1);
    }

    private static void copperOfTheCellAlone() {
        Limits limits = new Limits(13, "The copper of a cell");
        for (int cell = 0; cell < 128; cell++) {
            limits.due(true).copper(cell / 16, cell % 16, 1 + cell % 7, 8);
        }
        for (int cell = 0; cell < 128; cell++) {
            limits.due(false).copper(cell / 16, cell % 16, 1 + cell % 7, 8);
        }
    }

    private static void copperOfNoLayer() {
        Limits limits = new Limits(13, "IndexOutOfBoundsException, when there is no such layer");
        limits.due(true).copper(7, 0, 1, 1);
        limits.noIndex().copper(8, 0, 1, 1);
        for (int layer : Limits.NO_INDICES) {
            limits.noIndex().copper(layer, 0, 1, 1);
        }
    }

    private static void copperOfNoCell() {
        Limits limits = new Limits(13, "IndexOutOfBoundsException, when there is no such cell");
        limits.due(true).copper(0, 15, 1, 1);
        for (int layer = 0; layer < 8; layer++) {
            limits.noIndex().copper(layer, 16, 1, 1);
        }
        for (int cell : Limits.NO_INDICES) {
            limits.noIndex().copper(0, cell, 1, 1);
            limits.noIndex().copper(7, cell, 1, 1);
        }
        limits.balanceRow(1, 0, 0, 1);
    }

    private static void copperBelow() {
        Limits limits = new Limits(13, "IllegalArgumentException, when below is not 1 .. 10");
        for (long below : new long[] {0, -1, 11, 12, 1L << 32, (1L << 32) + 1, Long.MIN_VALUE, Long.MAX_VALUE}) {
            limits.noArgument().copper(0, 0, 0, below);
            limits.noArgument().copper(0, 0, 1, below);
            limits.noArgument().copper(0, 0, below, below);
        }
        for (int below = 1; below <= 10; below++) {
            limits.due(true).copper(0, below, 1, below);
        }
    }

    private static void copperAbove() {
        Limits limits = new Limits(13, "IllegalArgumentException, when above not 0 .. below");
        for (int below = 1; below <= 10; below++) {
            limits.noArgument().copper(0, below, -1, below);
            limits.noArgument().copper(0, below, below + 1, below);
            limits.due(true).copper(0, below, below, below);
            limits.due(true).copper(0, below, 0, below);
        }
        for (long above : new long[] {-2, 11, 1L << 32, (1L << 32) + 1, Long.MIN_VALUE, Long.MAX_VALUE}) {
            limits.noArgument().copper(0, 0, above, 10);
        }
    }

    private static void refusedCopper() {
        Limits limits = new Limits(13, "copper that is refused leaves the cell as it was");
        limits.copper(2, 3, 1, 3);
        limits.noArgument().copper(2, 3, 4, 3);
        limits.noArgument().copper(2, 3, 2, 11);
        limits.noArgument().copper(2, 3, -1, 1);
        limits.noIndex().copper(2, 16, 1, 1);
        limits.noIndex().copper(8, 3, 1, 1);
        limits.balanceRow(2, 3, 5, 16);
        limits.balanceRow(3, 0, 0, 1);
        limits.due(false).copper(2, 3, 1, 3);
    }
}
