/** Promises 4 to 8: thing(), at(), run(), remark() and least(). */
public final class BoardTest {
    public static void main(String[] args) {
        thingsAreNumbered();
        thingsThatCanNotBe();
        placesAreTold();
        thingsAreBeyondByTheirKind();
        remarksTellTheThings();
        remarksAreThoseOfTheLatestRun();
        partsOfRemarks();
        leastClassThatMakes();
        wrongMakersAndClasses();
        Due.end();
    }

    private static void thingsAreNumbered() {
        MakingLimits limits = new MakingLimits();
        for (int i = 0; i < 60; i++) {
            int number = i;
            Due.same("thing " + number, number, () -> limits.thing(number % 6, number % 2 * 1000000L, number % 8));
        }
        Due.same("a 61st thing", -1, () -> limits.thing(0, 0, 0));
        Due.noIndex("a 61st thing of no KIND", () -> limits.thing(6, 0, 0));
        Due.noArgument("a 61st thing of no value", () -> limits.thing(0, -1, 0));
        Due.same("at(59, 1, 1)", true, () -> limits.at(59, 1, 1));
        Due.noIndex("at(60, 1, 1)", () -> limits.at(60, 1, 1));
    }

    private static void thingsThatCanNotBe() {
        MakingLimits limits = new MakingLimits();
        int[] noKinds = {-1, 6, 7, Integer.MIN_VALUE, Integer.MAX_VALUE};
        int[] noLayers = {-1, 8, 9, Integer.MIN_VALUE, Integer.MAX_VALUE};
        long[] noValues = {-1, 1000001, 1L << 32, Long.MIN_VALUE, Long.MAX_VALUE};
        for (int kind : noKinds) {
            Due.noIndex("thing(" + kind + ", 1, 1)", () -> limits.thing(kind, 1, 1));
            Due.noIndex("thing(" + kind + ", -1, 1)", () -> limits.thing(kind, -1, 1));
        }
        for (int layer : noLayers) {
            Due.noIndex("thing(1, 1, " + layer + ")", () -> limits.thing(1, 1, layer));
            Due.noIndex("thing(1, -1, " + layer + ")", () -> limits.thing(1, -1, layer));
        }
        for (long value : noValues) {
            Due.noArgument("thing(1, " + value + ", 1)", () -> limits.thing(1, value, 1));
        }
        Due.same("the first thing after wrong ones", 0, () -> limits.thing(5, 1000000, 7));
    }

    private static void placesAreTold() {
        MakingLimits limits = new MakingLimits();
        limits.thing(0, 0, 0);
        limits.thing(0, 0, 0);
        Due.same("at(0, 0, 0), where it was at first", false, () -> limits.at(0, 0, 0));
        Due.same("at(0, 1, 0)", true, () -> limits.at(0, 1, 0));
        Due.same("at(0, 1, 0) again", false, () -> limits.at(0, 1, 0));
        Due.same("at(0, 1, 1)", true, () -> limits.at(0, 1, 1));
        Due.same("at(0, 0, 1)", true, () -> limits.at(0, 0, 1));
        Due.same("at(1, 0, 1)", true, () -> limits.at(1, 0, 1));
        Due.same("at(1, 1000000, -1000000)", true, () -> limits.at(1, 1000000, -1000000));
        Due.same("at(1, -1000000, 1000000)", true, () -> limits.at(1, -1000000, 1000000));
        Due.same("at(0, 0, 1) again", false, () -> limits.at(0, 0, 1));
        long[] noPlaces = {-1000001, 1000001, 1L << 32, Long.MIN_VALUE, Long.MAX_VALUE};
        for (long place : noPlaces) {
            Due.noArgument("at(0, " + place + ", 0)", () -> limits.at(0, place, 0));
            Due.noArgument("at(0, 0, " + place + ")", () -> limits.at(0, 0, place));
            Due.noIndex("at(2, " + place + ", 0)", () -> limits.at(2, place, 0));
        }
        int[] noThings = {-1, 2, 60, Integer.MIN_VALUE, Integer.MAX_VALUE};
        for (int thing : noThings) {
            Due.noIndex("at(" + thing + ", 0, 0)", () -> limits.at(thing, 0, 0));
        }
        Due.same("at(0, 0, 1) after wrong ones", false, () -> limits.at(0, 0, 1));
    }

    private static void thingsAreBeyondByTheirKind() {
        int[] limitOf = {10, 20, 30, 40, 50, 60};
        for (int kind = 0; kind < 6; kind++) {
            for (int off = -2; off <= 2; off++) {
                MakingLimits limits = new MakingLimits();
                Texts.maker(limits, "M0C10,20,30,40,50,60:1@1/1;");
                limits.thing(kind, limitOf[kind] + off, 0);
                int beyond = Math.max(0, kind < 4 ? -off : off);
                String what = "kind " + kind + " off by " + off;
                Due.same("run(0, 0), " + what, beyond > 0 ? 1 : 0, () -> limits.run(0, 0));
                Due.same("remark(0, 2), " + what, beyond > 0 ? beyond : -1, () -> limits.remark(0, 2));
                Due.same("least(0), " + what, beyond > 0 ? -1 : 0, () -> limits.least(0));
            }
        }
    }

    private static void remarksTellTheThings() {
        MakingLimits limits = new MakingLimits();
        Texts.maker(limits, "M0" + Texts.COARSE);
        limits.thing(2, 20, 0);
        limits.thing(2, 15, 7);
        limits.thing(4, 4, 0);
        limits.thing(5, 1000000, 3);
        limits.at(1, -7, 9);
        limits.at(3, 1000000, -1000000);
        Due.same("run(0, 0)", 2, () -> limits.run(0, 0));
        row(limits, 0, 1, 2, 5, 7, -7, 9);
        row(limits, 1, 3, 5, 999900, 3, 1000000, -1000000);
        row(limits, 2, -1, -1, -1, -1, -1, -1);
        row(limits, -1, -1, -1, -1, -1, -1, -1);
        limits.at(1, 70, -90);
        row(limits, 0, 1, 2, 5, 7, 70, -90);
    }

    private static void remarksAreThoseOfTheLatestRun() {
        MakingLimits limits = new MakingLimits();
        Texts.maker(limits, "M0" + Texts.COARSE + Texts.FINE);
        limits.thing(0, 4, 0);
        limits.thing(0, 8, 0);
        Due.same("remark(0, 0) without a run", -1, () -> limits.remark(0, 0));
        Due.same("run(0, 0)", 2, () -> limits.run(0, 0));
        Texts.maker(limits, "M0" + Texts.FINE);
        limits.thing(0, 0, 0);
        Due.noIndex("run(0, 1)", () -> limits.run(0, 1));
        limits.least(0);
        limits.best(1);
        row(limits, 0, 0, 0, 6, 0, 0, 0);
        row(limits, 1, 1, 0, 2, 0, 0, 0);
        row(limits, 2, -1, -1, -1, -1, -1, -1);
        Due.same("run(0, 0) of the new class", 2, () -> limits.run(0, 0));
        row(limits, 0, 0, 0, 1, 0, 0, 0);
        row(limits, 1, 2, 0, 5, 0, 0, 0);
        Texts.maker(limits, "M0" + Texts.ALL);
        Due.same("run(0, 0) of a class that makes it", 0, () -> limits.run(0, 0));
        row(limits, 0, -1, -1, -1, -1, -1, -1);
    }

    private static void partsOfRemarks() {
        MakingLimits limits = new MakingLimits();
        Texts.maker(limits, "M0" + Texts.COARSE);
        for (int i = 0; i < 60; i++) {
            limits.thing(0, 0, 0);
        }
        Due.same("run(0, 0) of 60 things", 60, () -> limits.run(0, 0));
        Due.same("remark(59, 0)", 59, () -> limits.remark(59, 0));
        for (int k : new int[] {60, -1, Integer.MIN_VALUE, Integer.MAX_VALUE}) {
            Due.same("remark(" + k + ", 0)", -1, () -> limits.remark(k, 0));
            Due.noIndex("remark(" + k + ", 6)", () -> limits.remark(k, 6));
        }
        for (int what : new int[] {-1, 6, 7, Integer.MIN_VALUE, Integer.MAX_VALUE}) {
            Due.noIndex("remark(0, " + what + ")", () -> limits.remark(0, what));
        }
    }

    private static void leastClassThatMakes() {
        MakingLimits limits = new MakingLimits();
        Texts.maker(limits, "M0" + Texts.COARSE + Texts.FINE);
        Texts.maker(limits, "M1" + Texts.FINE + Texts.COARSE + Texts.ALL);
        Due.same("least(0) of an empty board", 0, () -> limits.least(0));
        Due.same("least(1) of an empty board", 0, () -> limits.least(1));
        limits.thing(0, 8, 0);
        Due.same("least(0) of width 8", 1, () -> limits.least(0));
        Due.same("least(1) of width 8", 0, () -> limits.least(1));
        limits.thing(4, 9, 0);
        Due.same("least(0) of 9 layers", -1, () -> limits.least(0));
        Due.same("least(1) of 9 layers", 2, () -> limits.least(1));
    }

    private static void wrongMakersAndClasses() {
        MakingLimits limits = new MakingLimits();
        Texts.maker(limits, "M0" + Texts.COARSE + Texts.FINE);
        for (int maker : new int[] {-1, 1, 3, 4, Integer.MIN_VALUE, Integer.MAX_VALUE}) {
            Due.noIndex("run(" + maker + ", 0)", () -> limits.run(maker, 0));
            Due.noIndex("least(" + maker + ")", () -> limits.least(maker));
        }
        for (int cls : new int[] {-1, 2, 3, 4, Integer.MIN_VALUE, Integer.MAX_VALUE}) {
            Due.noIndex("run(0, " + cls + ")", () -> limits.run(0, cls));
        }
        Due.same("run(0, 1)", 0, () -> limits.run(0, 1));
    }

    private static void row(MakingLimits limits, int k, int... due) {
        for (int i = 0; i < due.length; i++) {
            int what = i;
            Due.same("remark(" + k + ", " + what + ")", due[what], () -> limits.remark(k, what));
        }
    }
}
