/** Where the document leaves a choice: the one that README.md tells. */
public final class ChoicesTest {
    public static void main(String[] args) {
        exceptionsComeAheadOfNone();
        indexComesAheadOfArgument();
        copperIsComparedAsTold();
        aCellWithoutCopperIsToldAsNone();
        Due.end();
    }

    private static void exceptionsComeAheadOfNone() {
        Limits limits = new Limits(4, "a choice: exceptions come ahead of NONE");
        for (int i = 0; i < 60; i++) {
            limits.thing(0, 5, 0);
        }
        limits.none().thing(0, 5, 0);
        limits.noIndex().thing(6, 5, 0);
        limits.noIndex().thing(0, 5, 8);
        limits.noArgument().thing(0, -1, 0);
        limits.noIndex().remark(99, 6);
        limits.noIndex().remark(-1, -1);
        limits.maker("M0" + Limits.ALL);
        for (int i = 0; i < 20; i++) {
            limits.quote(0, 1);
            limits.order(0, 1, 1);
        }
        limits.none().quote(0, 1);
        limits.noIndex().quote(1, 1);
        limits.none().order(0, 1, 1);
        limits.noIndex().order(1, 1, 1);
        limits.noArgument().order(0, 0, 1);
        limits.maker("M1C6,0,0,0,9,9:1@1/1;");
        limits.none().order(1, 1, 1);
        limits.noArgument().order(1, 0, 1);
    }

    private static void indexComesAheadOfArgument() {
        Limits limits = new Limits(4, "a choice: IndexOutOfBoundsException comes ahead of IllegalArgumentException");
        limits.maker("M0" + Limits.ALL);
        limits.noIndex().thing(6, -1, 0);
        limits.noIndex().thing(0, -1, 8);
        limits.noIndex().at(0, 1000001, 0);
        limits.noIndex().price(1, 0, 0);
        limits.noIndex().price(0, 1, 0);
        limits.noIndex().copper(8, 0, 1, 0);
        limits.noIndex().copper(0, 16, 1, 0);
        limits.noIndex().order(1, 0, 1);
    }

    private static void copperIsComparedAsTold() {
        Limits limits = new Limits(13, "a choice: the same copper by another fraction is told otherwise");
        limits.due(true).copper(0, 0, 1, 2);
        limits.due(true).copper(0, 0, 2, 4);
        limits.due(false).copper(0, 0, 2, 4);
        limits.due(true).copper(0, 0, 1, 2);
    }

    private static void aCellWithoutCopperIsToldAsNone() {
        Limits limits = new Limits(13, "a choice: a cell without copper counts as told 0 / 1");
        limits.due(false).copper(0, 0, 0, 1);
        limits.due(true).copper(0, 1, 0, 5);
        limits.clear();
        limits.due(false).copper(0, 1, 0, 1);
        limits.due(true).copper(0, 0, 0, 5);
    }
}
