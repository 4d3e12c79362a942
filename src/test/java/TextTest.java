/** Promises 2 and 3: unit() and maker(). */
public final class TextTest {
    private static final String SIX = "1,2,3,4,5,6";
    private static final String CLASS = "C" + SIX + ":1@1/1;";

    public static void main(String[] args) {
        charactersAreTaken();
        textsEndAt400();
        numbersAreToldOrNext();
        charactersThatAreWrong();
        wholesHaveUpToSevenDigits();
        classesThatCanNotBe();
        edgesThatCanBe();
        faultsAreToldInTheirOrder();
        aFaultLeavesAllMakers();
        aTextTakesTheOldOnesPlace();
        Due.end();
    }

    private static void charactersAreTaken() {
        MakingLimits limits = new MakingLimits();
        int[] taken = {32, 33, 77, 125, 126};
        int[] refused = {31, 127, 10, 0, -1, 128, 255, 256 + 77, 65536 + 77, Integer.MIN_VALUE, Integer.MAX_VALUE};
        for (int u : taken) {
            Due.same("unit(" + u + ")", true, () -> limits.unit(u));
        }
        for (int u : refused) {
            Due.same("unit(" + u + ")", false, () -> limits.unit(u));
        }
        Due.same("maker() of what was taken", -1, limits::maker);
        limits.unit('M');
        limits.unit(10);
        Due.same("M, with a refused character behind it", -2, limits::maker);
    }

    private static void textsEndAt400() {
        MakingLimits limits = new MakingLimits();
        String start = "M0C" + SIX + ":";
        Texts.write(limits, start);
        for (int i = start.length(); i < 400; i++) {
            int place = i;
            char next = "1@1,".charAt((place - start.length()) % 4);
            Due.same("unit at " + place, true, () -> limits.unit(next));
        }
        Due.same("a 401st character", false, () -> limits.unit('1'));
        Due.same("maker() of 400 characters", -401, limits::maker);
        Due.same("a character of the next text", true, () -> limits.unit('M'));
    }

    private static void numbersAreToldOrNext() {
        MakingLimits limits = new MakingLimits();
        for (int maker = 0; maker < 4; maker++) {
            for (int number = maker + 1; number < 10; number++) {
                due(limits, "M" + number + CLASS, -1);
                due(limits, "M" + number, -1);
            }
            due(limits, "M" + maker + CLASS, maker);
            due(limits, "M0" + CLASS, 0);
        }
        for (int number = 4; number < 10; number++) {
            due(limits, "M" + number + CLASS, -1);
        }
        due(limits, "M9x", -1);
        due(limits, "M3" + CLASS, 3);
    }

    private static void charactersThatAreWrong() {
        MakingLimits limits = new MakingLimits();
        String whole = "M0C1,22,333,4444,55555,666666:7@77,88@888/99;";
        for (int length = 0; length < whole.length(); length++) {
            due(limits, whole.substring(0, length), -1 - length);
            for (String wrong : new String[] {" ", "x", "m", "c", "-", "."}) {
                due(limits, whole.substring(0, length) + wrong + whole.substring(length), -1 - length);
            }
        }
        due(limits, whole + "x", -1 - whole.length());
        due(limits, whole + ";", -1 - whole.length());
        due(limits, whole + "M", -1 - whole.length());
        due(limits, whole + "C", -2 - whole.length());
        due(limits, "M0C1,2,3,4,5:1@1/1;", -13);
        due(limits, "M0C1,2,3,4,5,6,7:1@1/1;", -15);
        due(limits, "M0C,2,3,4,5,6:1@1/1;", -4);
        due(limits, "M0C1,2,3,4,5,:1@1/1;", -14);
        due(limits, "M0C:1@1/1;", -4);
        due(limits, "M0C" + SIX + ":/1;", -16);
        due(limits, "M0C" + SIX + ":1/1;", -17);
        due(limits, "M0C" + SIX + ":1@/1;", -18);
        due(limits, "M0C" + SIX + ":1@1,/1;", -20);
        due(limits, "M0C" + SIX + ":1@1;", -19);
        due(limits, "M0C" + SIX + ":1@1/;", -20);
        due(limits, "M0C" + SIX + ":1@1/1,", -21);
        due(limits, "M00" + CLASS, -3);
        due(limits, "MM0" + CLASS, -2);
        due(limits, " M0" + CLASS, -1);
    }

    private static void wholesHaveUpToSevenDigits() {
        MakingLimits limits = new MakingLimits();
        due(limits, "M0C0000001,2,3,4,5,6:0000001@0000001/0000001;", 0);
        due(limits, "M0C00000001,2,3,4,5,6:1@1/1;", -11);
        due(limits, "M0C" + SIX + ":00000001@1/1;", -23);
        due(limits, "M0C" + SIX + ":1@00000001/1;", -25);
        due(limits, "M0C" + SIX + ":1@1/00000001;", -27);
    }

    private static void classesThatCanNotBe() {
        MakingLimits limits = new MakingLimits();
        for (int kind = 0; kind < 6; kind++) {
            String[] wholes = SIX.split(",");
            wholes[kind] = "1000001";
            due(limits, "M0C" + String.join(",", wholes) + ":1@1/1;", -3);
            wholes[kind] = "9999999";
            due(limits, "M0C" + String.join(",", wholes) + ":1@1/1;", -3);
        }
        String[] steps = {
            "0@1", "1@0", "1000001@1", "1@1000001", "9999999@1", "1@9999999", "0@0",
            "1@1,1@1", "2@1,1@1", "1@5,2@4,2@3", "1@5,3@4,2@3", "1@1,0@1", "1@1,2@0",
            "1@1,2@1,3@1,4@1,5@1", "1@1,2@1,3@1,4@1,4@1", "1@1,2@1,3@1,4@1,5@1,6@1,7@1,8@1,9@1",
        };
        for (String these : steps) {
            due(limits, "M0C" + SIX + ":" + these + "/1;", -3);
            due(limits, "M0" + CLASS + "C" + SIX + ":" + these + "/1;", -3 - CLASS.length());
        }
        due(limits, "M0C" + SIX + ":1@1/1001;", -3);
        due(limits, "M0C" + SIX + ":1@1/9999999;", -3);
        due(limits, "M0" + CLASS.repeat(5), -3 - 4 * CLASS.length());
        due(limits, "M0" + CLASS.repeat(6), -3 - 4 * CLASS.length());
    }

    private static void edgesThatCanBe() {
        MakingLimits limits = new MakingLimits();
        due(limits, "M0C0,0,0,0,0,0:1@1/0;", 0);
        due(limits, "M0C1000000,1000000,1000000,1000000,1000000,1000000:1000000@1000000/1000;", 0);
        due(limits, "M0C" + SIX + ":1@1,2@1,3@1,1000000@1/1;", 0);
        due(limits, "M0" + CLASS.repeat(4), 0);
        Due.noIndex("run(0, 4)", () -> limits.run(0, 4));
        Due.same("run(0, 3)", 0, () -> limits.run(0, 3));
    }

    private static void faultsAreToldInTheirOrder() {
        MakingLimits limits = new MakingLimits();
        due(limits, "M0C" + SIX + ":0@1/1", -21);
        due(limits, "M0C" + SIX + ":0@1/1x", -21);
        due(limits, "M0C" + SIX + ":0@1/1;x", -3);
        due(limits, "M0C" + SIX + ":0@1/1;C9", -3);
        due(limits, "M0" + CLASS + "x", -3 - CLASS.length());
        String four = "M0" + CLASS.repeat(4);
        due(limits, four + "C", -2 - four.length());
        due(limits, four + "Cx", -2 - four.length());
        due(limits, four + "C1,x", -4 - four.length());
        due(limits, four + "x", -1 - four.length());
        due(limits, four + CLASS.substring(0, CLASS.length() - 1), -four.length() - CLASS.length());
    }

    private static void aFaultLeavesAllMakers() {
        MakingLimits limits = new MakingLimits();
        due(limits, "M0" + Texts.COARSE + Texts.FINE, 0);
        due(limits, "M0" + CLASS + "C1", -5 - CLASS.length());
        due(limits, "M0" + CLASS + "C" + SIX + ":0@1/1;", -3 - CLASS.length());
        due(limits, "M1" + CLASS + "x", -3 - CLASS.length());
        Due.same("price(0, 0, 10)", 3000, () -> limits.price(0, 0, 10));
        Due.same("price(0, 1, 10)", 9000, () -> limits.price(0, 1, 10));
        Due.noIndex("least(1)", () -> limits.least(1));
        due(limits, "M2" + CLASS, -1);
    }

    private static void aTextTakesTheOldOnesPlace() {
        MakingLimits limits = new MakingLimits();
        due(limits, "M0" + Texts.COARSE + Texts.FINE, 0);
        due(limits, "M1" + Texts.COARSE, 1);
        due(limits, "M0" + Texts.ALL, 0);
        Due.same("price(0, 0, 2)", 2000, () -> limits.price(0, 0, 2));
        Due.noIndex("price(0, 1, 2)", () -> limits.price(0, 1, 2));
        Due.same("price(1, 0, 2)", 1000, () -> limits.price(1, 0, 2));
        due(limits, "M2" + CLASS, 2);
    }

    private static void due(MakingLimits limits, String text, int due) {
        Due.same("maker() of " + text, due, () -> Texts.maker(limits, text));
    }
}
