/** Promises 1 and 17: a new object, and clear(). */
public final class NewAndClearTest {
    public static void main(String[] args) {
        isAsAtFirst("new", new MakingLimits());
        MakingLimits used = new MakingLimits();
        use(used);
        used.clear();
        isAsAtFirst("cleared", used);
        use(used);
        Due.same("remark(0, 0) of an object used again", 0, () -> used.remark(0, 0));
        Due.same("history(0, 6) of an object used again", 0, () -> used.history(0, 6));
        used.clear();
        used.clear();
        isAsAtFirst("cleared twice", used);
        makersAreGone();
        placesAreGone();
        textIsGone();
        allCopperIsGone();
        fullObjectTakesAllAgain();
        Due.end();
    }

    private static void use(MakingLimits limits) {
        Texts.maker(limits, "M0" + Texts.COARSE);
        Texts.maker(limits, "M1" + Texts.ALL);
        limits.thing(0, 1, 2);
        limits.at(0, 3, 4);
        limits.run(0, 0);
        limits.quote(1, 5);
        limits.order(1, 1, 1);
        limits.copper(0, 0, 1, 2);
        limits.copper(7, 15, 1, 1);
        Texts.write(limits, "M");
    }

    private static void isAsAtFirst(String state, MakingLimits limits) {
        Due.same(state + " maker()", -1, limits::maker);
        for (int maker = -1; maker < 5; maker++) {
            int number = maker;
            Due.noIndex(state + " least(" + number + ")", () -> limits.least(number));
            Due.noIndex(state + " quote(" + number + ", 1)", () -> limits.quote(number, 1));
            Due.noIndex(state + " run(" + number + ", 0)", () -> limits.run(number, 0));
        }
        Due.same(state + " best(1)", -1, () -> limits.best(1));
        Due.noIndex(state + " at(0, 0, 0)", () -> limits.at(0, 0, 0));
        Due.same(state + " remark(0, 0)", -1, () -> limits.remark(0, 0));
        Due.noIndex(state + " history(0, 0)", () -> limits.history(0, 0));
        for (int cell = 0; cell < 128; cell++) {
            int layer = cell / 16;
            int place = cell % 16;
            Due.same(state + " balance(" + layer + ", " + place + ", 0)", 0, () -> limits.balance(layer, place, 0));
            Due.same(state + " balance(" + layer + ", " + place + ", 1)", 1, () -> limits.balance(layer, place, 1));
        }
    }

    private static void makersAreGone() {
        MakingLimits limits = new MakingLimits();
        Texts.maker(limits, "M0" + Texts.FINE);
        Texts.maker(limits, "M1" + Texts.FINE);
        limits.clear();
        Due.same("M1 after clear()", -1, () -> Texts.maker(limits, "M1" + Texts.FINE));
        Due.same("M0 after clear()", 0, () -> Texts.maker(limits, "M0" + Texts.FINE));
        Due.noIndex("least(1) after clear() and M0", () -> limits.least(1));
    }

    private static void placesAreGone() {
        MakingLimits limits = new MakingLimits();
        limits.thing(0, 1, 2);
        limits.at(0, 3, 4);
        limits.clear();
        Due.same("thing after clear()", 0, () -> limits.thing(1, 1, 1));
        Due.same("at(0, 0, 0) of it", false, () -> limits.at(0, 0, 0));
    }

    private static void textIsGone() {
        MakingLimits limits = new MakingLimits();
        Texts.write(limits, "M0");
        limits.clear();
        Due.same("a text after clear()", 0, () -> Texts.maker(limits, "M0" + Texts.FINE));
    }

    private static void allCopperIsGone() {
        MakingLimits limits = new MakingLimits();
        limits.copper(3, 4, 5, 7);
        limits.clear();
        Due.same("copper(3, 4, 0, 1) after clear()", false, () -> limits.copper(3, 4, 0, 1));
        Due.same("copper(3, 4, 5, 7) after clear()", true, () -> limits.copper(3, 4, 5, 7));
    }

    private static void fullObjectTakesAllAgain() {
        MakingLimits limits = new MakingLimits();
        for (int round = 0; round < 2; round++) {
            Texts.maker(limits, "M0" + Texts.ALL);
            for (int i = 0; i < 60; i++) {
                int number = i;
                Due.same("thing " + number, number, () -> limits.thing(0, 1, 0));
            }
            for (int i = 0; i < 10; i++) {
                int number = i;
                Due.same("quote " + number, number, () -> limits.quote(0, 1));
            }
            for (int i = 0; i < 20; i++) {
                int number = i;
                Due.same("order " + number, number, () -> limits.order(0, 1, 1));
            }
            limits.clear();
        }
    }
}
