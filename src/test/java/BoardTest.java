/** Promises 4 to 8: thing(), at(), run(), remark() and least(). */
public final class BoardTest {
    private static final long[] NO_VALUES = {-1, 1000001, 1L << 32, (1L << 32) + 1, -(1L << 32), Long.MIN_VALUE,
        Long.MAX_VALUE};
    private static final long[] NO_PLACES = {-1000001, 1000001, 1L << 32, -(1L << 32), Long.MIN_VALUE, Long.MAX_VALUE};

    public static void main(String[] args) {
        thingsAreNumbered();
        sixtyThings();
        kindsOfThings();
        layersOfThings();
        valuesOfThings();
        refusedThings();
        placesAtFirst();
        placesOfOthers();
        edgesOfPlaces();
        placesOfNoThing();
        refusedPlaces();
        thingsBeyondAClass();
        thingsFarBeyond();
        runsOfNoThings();
        runsOfAllThings();
        runsOfNoMaker();
        runsOfNoClass();
        remarksByNumbers();
        remarksOfTheThingNow();
        remarksOfWhatWasBeyond();
        remarksOfTheLatestRun();
        remarksAreNone();
        remarksOfAnotherWhat();
        leastOfSeveral();
        leastIsNone();
        leastOfAnEmptyBoard();
        leastOfNoMaker();
        Due.end();
    }

    private static void thingsAreNumbered() {
        Limits limits = new Limits(4, "A new THING: its number");
        limits.due(0).thing(0, 1, 2);
        limits.due(1).thing(0, 1, 2);
        limits.due(2).thing(5, 0, 0);
        limits.maker("M0C9,9,9,9,0,0:1@1/1;");
        limits.due(2).run(0, 0);
        limits.remarkRow(1, 1, 0, 8, 2, 0, 0);
    }

    private static void sixtyThings() {
        Limits limits = new Limits(4, "NONE when there are 60");
        limits.maker("M0C1,1,1,1,0,0:1@1/1;");
        for (int i = 0; i < 59; i++) {
            limits.due(i).thing(0, 1, 0);
        }
        limits.noIndex().at(59, 1, 1);
        limits.due(59).thing(1, 0, 7);
        limits.none().thing(0, 0, 0);
        limits.none().thing(5, 1000000, 7);
        limits.noIndex().at(60, 1, 1);
        limits.due(1).run(0, 0);
        limits.remarkRow(0, 59, 1, 1, 7, 0, 0);
    }

    private static void kindsOfThings() {
        Limits limits = new Limits(4, "IndexOutOfBoundsException, when there is no such KIND");
        for (int kind = 0; kind < 6; kind++) {
            limits.due(kind).thing(kind, 1, 1);
        }
        limits.noIndex().thing(6, 1, 1);
        limits.noIndex().thing(7, 1, 1);
        for (int kind : Limits.NO_INDICES) {
            limits.noIndex().thing(kind, 1, 1);
        }
        limits.due(6).thing(0, 1, 1);
    }

    private static void layersOfThings() {
        Limits limits = new Limits(4, "IndexOutOfBoundsException, when there is no such layer");
        limits.maker("M0C1,1,1,1,0,0:1@1/1;");
        for (int layer = 0; layer < 8; layer++) {
            limits.due(layer).thing(0, 0, layer);
        }
        limits.noIndex().thing(0, 1, 8);
        limits.noIndex().thing(0, 1, 9);
        for (int layer : Limits.NO_INDICES) {
            limits.noIndex().thing(0, 1, layer);
        }
        limits.due(8).run(0, 0);
        for (int layer = 0; layer < 8; layer++) {
            limits.due(layer).remark(layer, 3);
        }
    }

    private static void valuesOfThings() {
        Limits limits = new Limits(4, "IllegalArgumentException, when it is no value");
        for (int kind = 0; kind < 6; kind++) {
            limits.due(2 * kind).thing(kind, 0, 0);
            limits.due(2 * kind + 1).thing(kind, 1000000, 0);
            for (long value : NO_VALUES) {
                limits.noArgument().thing(kind, value, 0);
            }
        }
        limits.maker("M0C1,1,1,1,1,1:1@1/1;");
        limits.due(6).run(0, 0);
        limits.remarkRow(0, 0, 0, 1, 0, 0, 0);
        limits.remarkRow(5, 11, 5, 999999, 0, 0, 0);
    }

    private static void refusedThings() {
        Limits limits = new Limits(4, "a THING that is refused is none");
        limits.maker("M0C9,9,9,9,0,0:1@1/1;");
        limits.noIndex().thing(6, 0, 0);
        limits.noIndex().thing(0, 0, 8);
        limits.noArgument().thing(0, -1, 0);
        limits.due(0).run(0, 0);
        limits.noIndex().at(0, 0, 0);
        limits.due(0).thing(0, 3, 1);
        limits.due(1).run(0, 0);
        limits.remarkRow(0, 0, 0, 6, 1, 0, 0);
    }

    private static void placesAtFirst() {
        Limits limits = new Limits(5, "a place (at first 0, 0)");
        limits.thing(0, 0, 0);
        limits.due(false).at(0, 0, 0);
        limits.thing(0, 0, 0);
        limits.due(true).at(0, 1, 1);
        limits.due(false).at(1, 0, 0);
    }

    private static void placesOfOthers() {
        Limits limits = new Limits(5, "A THING's place: whether it was another one");
        limits.thing(0, 0, 0);
        limits.thing(0, 0, 0);
        limits.due(true).at(0, 1, 0);
        limits.due(false).at(0, 1, 0);
        limits.due(true).at(0, 1, 2);
        limits.due(true).at(0, 2, 1);
        limits.due(true).at(0, -2, 1);
        limits.due(true).at(0, -2, -1);
        limits.due(false).at(0, -2, -1);
        limits.due(true).at(1, -2, -1);
        limits.due(true).at(1, 0, 0);
        limits.due(false).at(0, -2, -1);
        limits.due(true).at(0, 0, 0);
    }

    private static void edgesOfPlaces() {
        Limits limits = new Limits(5, "IllegalArgumentException, when it is none (-1,000,000 .. 1,000,000)");
        limits.maker("M0C9,9,9,9,0,0:1@1/1;");
        limits.thing(0, 0, 0);
        limits.run(0, 0);
        limits.due(true).at(0, 1000000, -1000000);
        limits.remarkRow(0, 0, 0, 9, 0, 1000000, -1000000);
        limits.due(true).at(0, -1000000, 1000000);
        limits.remarkRow(0, 0, 0, 9, 0, -1000000, 1000000);
        for (long place : NO_PLACES) {
            limits.noArgument().at(0, place, 0);
            limits.noArgument().at(0, 0, place);
            limits.noArgument().at(0, place, place);
        }
    }

    private static void placesOfNoThing() {
        Limits limits = new Limits(5, "IndexOutOfBoundsException, when there is no such THING");
        limits.noIndex().at(0, 0, 0);
        limits.thing(0, 0, 0);
        limits.thing(0, 0, 0);
        limits.due(true).at(1, 1, 1);
        limits.noIndex().at(2, 1, 1);
        limits.noIndex().at(59, 1, 1);
        for (int thing : Limits.NO_INDICES) {
            limits.noIndex().at(thing, 1, 1);
        }
    }

    private static void refusedPlaces() {
        Limits limits = new Limits(5, "a place that is refused leaves the one that was");
        limits.thing(0, 0, 0);
        limits.thing(0, 0, 0);
        limits.at(0, 3, 4);
        limits.noArgument().at(0, 5, 1000001);
        limits.noArgument().at(0, 1000001, 5);
        limits.noIndex().at(2, 5, 5);
        limits.due(false).at(0, 3, 4);
        limits.due(false).at(1, 0, 0);
    }

    private static void thingsBeyondAClass() {
        int[] limitOf = {10, 20, 30, 40, 50, 60};
        for (int kind = 0; kind < 6; kind++) {
            for (int off = -2; off <= 2; off++) {
                Limits limits = new Limits(6, kind < 4 ? "BEYOND, when its value is below the LIMIT, KIND " + kind
                        : "BEYOND, when its value is above the LIMIT, KIND " + kind);
                limits.maker("M0C10,20,30,40,50,60:1@1/1;");
                limits.thing(kind, limitOf[kind] + off, 0);
                int beyond = Math.max(0, kind < 4 ? -off : off);
                limits.due(beyond > 0 ? 1 : 0).run(0, 0);
                limits.due(beyond > 0 ? beyond : -1).remark(0, 2);
                limits.due(beyond > 0 ? -1 : 0).least(0);
            }
        }
    }

    private static void thingsFarBeyond() {
        Limits limits = new Limits(6, "BEYOND, by the ends of values and LIMITS");
        limits.maker("M0C1000000,1000000,1000000,1000000,0,0:1@1/1;C0,0,0,0,1000000,1000000:1@1/1;");
        for (int kind = 0; kind < 6; kind++) {
            limits.thing(kind, 0, 0);
            limits.thing(kind, 1000000, 0);
        }
        limits.due(6).run(0, 0);
        for (int kind = 0; kind < 6; kind++) {
            limits.remarkRow(kind, kind < 4 ? 2 * kind : 2 * kind + 1, kind, 1000000, 0, 0, 0);
        }
        limits.due(0).run(0, 1);
        limits.due(1).least(0);
    }

    private static void runsOfNoThings() {
        Limits limits = new Limits(6, "All THINGS against a CLASS: none");
        limits.maker("M0C1000000,1000000,1000000,1000000,0,0:1@1/1;");
        limits.due(0).run(0, 0);
        limits.none().remark(0, 0);
    }

    private static void runsOfAllThings() {
        Limits limits = new Limits(6, "All THINGS against a CLASS: all 60");
        limits.maker("M0" + Limits.COARSE + Limits.ALL);
        for (int i = 0; i < 60; i++) {
            limits.thing(0, 0, 0);
        }
        limits.due(60).run(0, 0);
        limits.due(59).remark(59, 0);
        limits.none().remark(60, 0);
        limits.due(0).run(0, 1);
        limits.none().remark(0, 0);
    }

    private static void runsOfNoMaker() {
        Limits limits = new Limits(6, "IndexOutOfBoundsException, when there is no such MAKER");
        limits.noIndex().run(0, 0);
        for (int told = 0; told < 4; told++) {
            limits.maker("M" + told + Limits.FINE);
            limits.due(0).run(told, 0);
            limits.noIndex().run(told + 1, 0);
        }
        for (int maker : Limits.NO_INDICES) {
            limits.noIndex().run(maker, 0);
        }
    }

    private static void runsOfNoClass() {
        Limits limits = new Limits(6, "IndexOutOfBoundsException, when there is no such CLASS");
        limits.maker("M0" + Limits.FINE);
        limits.maker("M1" + Limits.FINE.repeat(4));
        limits.due(0).run(0, 0);
        limits.due(0).run(1, 3);
        for (int cls = 1; cls < 4; cls++) {
            limits.noIndex().run(0, cls);
        }
        limits.noIndex().run(1, 4);
        for (int cls : Limits.NO_INDICES) {
            limits.noIndex().run(0, cls);
            limits.noIndex().run(1, cls);
        }
    }

    private static Limits withRemarks(String sentence) {
        Limits limits = new Limits(7, sentence);
        limits.maker("M0" + Limits.COARSE + Limits.FINE);
        limits.thing(2, 20, 0);
        limits.thing(2, 15, 7);
        limits.thing(4, 4, 0);
        limits.thing(5, 1000000, 3);
        limits.thing(0, 0, 5);
        limits.at(1, -7, 9);
        limits.at(4, 1000000, -1000000);
        limits.due(3).run(0, 0);
        return limits;
    }

    private static void remarksByNumbers() {
        Limits limits = withRemarks("the k-th REMARK, by THINGS' numbers");
        limits.remarkRow(0, 1, 2, 5, 7, -7, 9);
        limits.remarkRow(1, 3, 5, 999900, 3, 0, 0);
        limits.remarkRow(2, 4, 0, 10, 5, 1000000, -1000000);
    }

    private static void remarksOfTheThingNow() {
        Limits limits = withRemarks("x (4), y (5) now");
        limits.at(1, 70, -90);
        limits.at(3, 1, 2);
        limits.remarkRow(0, 1, 2, 5, 7, 70, -90);
        limits.remarkRow(1, 3, 5, 999900, 3, 1, 2);
        limits.at(1, 0, 0);
        limits.remarkRow(0, 1, 2, 5, 7, 0, 0);
    }

    private static void remarksOfWhatWasBeyond() {
        Limits limits = withRemarks("by how much it was BEYOND (2)");
        limits.maker("M0C10,10,21,5,4,100:1@500/7;");
        limits.remarkRow(0, 1, 2, 5, 7, -7, 9);
        limits.none().remark(3, 2);
        limits.maker("M0" + Limits.ALL);
        limits.remarkRow(1, 3, 5, 999900, 3, 0, 0);
    }

    private static void remarksOfTheLatestRun() {
        Limits limits = withRemarks("of the latest run()");
        limits.thing(0, 1, 1);
        limits.none().remark(3, 0);
        limits.due(1).maker("M1" + Limits.ALL);
        // No other call is a run, nor is one that is refused.
        limits.noIndex().run(0, 2);
        limits.noIndex().run(2, 0);
        limits.least(1);
        limits.best(1);
        limits.order(1, 1, 1);
        limits.remarkRow(0, 1, 2, 5, 7, -7, 9);
        limits.remarkRow(2, 4, 0, 10, 5, 1000000, -1000000);
        limits.due(4).run(0, 0);
        limits.remarkRow(3, 5, 0, 9, 1, 0, 0);
        limits.due(3).run(0, 1);
        limits.remarkRow(0, 3, 5, 999800, 3, 0, 0);
        limits.remarkRow(2, 5, 0, 4, 1, 0, 0);
        limits.none().remark(3, 0);
        limits.due(0).run(1, 0);
        limits.remarkRow(0, -1, -1, -1, -1, -1, -1);
    }

    private static void remarksAreNone() {
        Limits limits = withRemarks("NONE, when there are not so many (or k is below 0)");
        limits.remarkRow(3, -1, -1, -1, -1, -1, -1);
        limits.remarkRow(-1, -1, -1, -1, -1, -1, -1);
        limits.none().remark(59, 0);
        for (int k : Limits.NO_INDICES) {
            limits.none().remark(k, 0);
            limits.none().remark(k, 2);
            limits.none().remark(k, 5);
        }
        limits = new Limits(7, "NONE, when there are not so many: without a run()");
        limits.thing(0, 0, 0);
        limits.remarkRow(0, -1, -1, -1, -1, -1, -1);
    }

    private static void remarksOfAnotherWhat() {
        Limits limits = withRemarks("IndexOutOfBoundsException, for another what");
        limits.noIndex().remark(0, 6);
        limits.noIndex().remark(0, 7);
        for (int what : Limits.NO_INDICES) {
            limits.noIndex().remark(0, what);
        }
        limits.remarkRow(0, 1, 2, 5, 7, -7, 9);
    }

    private static void leastOfSeveral() {
        Limits limits = new Limits(8, "The least CLASS of a MAKER that MAKES the board");
        limits.maker("M0C9,0,0,0,9,9:1@1/1;C5,0,0,0,9,9:1@1/1;C7,0,0,0,9,9:1@1/1;C1,0,0,0,9,9:1@1/1;");
        limits.maker("M1C1,0,0,0,9,9:1@1/1;");
        limits.due(0).least(0);
        limits.thing(0, 9, 0);
        limits.due(0).least(0);
        limits.thing(0, 8, 0);
        limits.due(1).least(0);
        limits.thing(0, 5, 0);
        limits.due(1).least(0);
        limits.thing(0, 4, 0);
        limits.due(3).least(0);
        limits.due(0).least(1);
        limits.thing(4, 9, 0);
        limits.due(3).least(0);
    }

    private static void leastIsNone() {
        for (int kind = 0; kind < 6; kind++) {
            Limits limits = new Limits(8, "least: NONE");
            limits.maker("M0C5,5,5,5,5,5:1@1/1;C5,5,5,5,5,5:1@1/1;");
            limits.maker("M1" + Limits.ALL);
            limits.thing(0, 5, 0);
            limits.thing(kind, kind < 4 ? 4 : 6, 0);
            limits.thing(5, 5, 0);
            limits.none().least(0);
            limits.due(0).least(1);
        }
    }

    private static void leastOfAnEmptyBoard() {
        Limits limits = new Limits(8, "A CLASS MAKES the board, when no THING is BEYOND it: of no THINGS");
        limits.maker("M0C1000000,1000000,1000000,1000000,0,0:1@1/1;" + Limits.ALL);
        limits.due(0).least(0);
    }

    private static void leastOfNoMaker() {
        Limits limits = new Limits(8, "IndexOutOfBoundsException, when there is no such MAKER");
        limits.noIndex().least(0);
        for (int told = 0; told < 4; told++) {
            limits.maker("M" + told + Limits.FINE);
            limits.due(0).least(told);
            limits.noIndex().least(told + 1);
        }
        for (int maker : Limits.NO_INDICES) {
            limits.noIndex().least(maker);
        }
    }
}
