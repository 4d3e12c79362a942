/** Promise 3: maker(), and a TEXT by the Terms. */
public final class MakerTest {
    private static final String SIX = "1,2,3,4,5,6";
    private static final String CLASS = "C" + SIX + ":1@1/1;";
    private static final String TEXT = "a TEXT of a MAKER";

    public static void main(String[] args) {
        textsBecomeMakers();
        textsTakeAMakersPlace();
        theTextIsGone();
        emptyTexts();
        textsThatEndTooSoon();
        charactersThatAreWrong();
        digitsThatAreWrong();
        nothingElseIsThere();
        numbersOfOneDigit();
        numbersThatCanNotBe();
        numbersAreToldAtOnce();
        oneToFourClasses();
        aFifthClass();
        sixLimits();
        oneToFourSteps();
        aFifthStep();
        wholesOfNoDigit();
        wholesOfSevenDigits();
        wholesOfEightDigits();
        limitsAboveAMillion();
        fromsAboveAMillion();
        centsAboveAMillion();
        fromsOfZero();
        centsOfZero();
        fromsThatDoNotRise();
        daysAboveAThousand();
        faultsWaitForTheSemicolon();
        theFirstFaultIsTold();
        allMakersStay();
        Due.end();
    }

    private static Limits limits(String sentence) {
        return new Limits(3, sentence);
    }

    /** A text on an object of its own. */
    private static void due(String sentence, String text, int answer) {
        limits(sentence).due(answer).maker(text);
    }

    /** A CLASS that can not be, as the first, the second and the fourth one. */
    private static void canNotBe(String sentence, String grade) {
        due(sentence, "M0" + grade, -3);
        due(sentence, "M0" + grade + CLASS, -3);
        due(sentence, "M0" + CLASS + grade, -3 - CLASS.length());
        due(sentence, "M0" + CLASS.repeat(3) + grade + CLASS, -3 - 3 * CLASS.length());
    }

    private static void textsBecomeMakers() {
        Limits limits = limits("The text becomes a MAKER: its number");
        limits.due(0).maker("M0" + Limits.COARSE + Limits.FINE);
        limits.due(1).maker("M1" + Limits.ALL);
        limits.due(500).price(0, 0, 1);
        limits.due(4500).price(0, 1, 1);
        limits.due(1000).price(1, 0, 1);
        limits.noIndex().price(1, 1, 1);
        limits.noIndex().price(2, 0, 1);
    }

    private static void textsTakeAMakersPlace() {
        Limits limits = limits("or in the place of the one with this number");
        limits.maker("M0" + Limits.COARSE + Limits.FINE);
        limits.maker("M1" + Limits.COARSE);
        limits.due(0).maker("M0" + Limits.ALL);
        limits.due(2000).price(0, 0, 2);
        limits.noIndex().price(0, 1, 2);
        limits.due(1000).price(1, 0, 2);
        limits.due(1).maker("M1" + Limits.FINE + Limits.COARSE);
        limits.due(4500).price(1, 0, 2);
        limits.due(1000).price(1, 1, 2);
        limits.noIndex().least(2);
        limits.due(2).maker("M2" + CLASS);
    }

    private static void theTextIsGone() {
        Limits limits = limits("The text, gone then");
        limits.due(0).maker("M0" + CLASS);
        limits.due(-1).maker();
        limits.due(0).maker("M0" + CLASS);
        limits.due(-3).maker("M0");
        limits.due(-1).maker();
        limits.due(-1).maker("M7" + CLASS);
        limits.due(-1).maker(CLASS);
        limits.due(-3).maker("M0C0,0,0,0,0,0:0@1/1;");
        limits.due(-1).maker();
        limits.due(1).maker("M1" + CLASS);
        limits.due(-5).maker("M0C1x");
        limits.due(1).maker("M1" + CLASS);
    }

    private static void emptyTexts() {
        due("-1 minus its length, of an empty text", "", -1);
        Limits limits = limits("-1 minus its length, of an empty text");
        limits.maker("M0" + CLASS);
        limits.due(-1).maker();
        limits.due(1).price(0, 0, 1);
    }

    private static void textsThatEndTooSoon() {
        String whole = "M0C1,22,333,4444,55555,666666:7@77,88@888/99;C1,2,3,4,5,6:7@8/9;";
        int firstEnd = whole.indexOf(';') + 1;
        for (int length = 0; length < whole.length(); length++) {
            due("-1 minus its length", whole.substring(0, length), length == firstEnd ? 0 : -1 - length);
        }
        due(TEXT, whole, 0);
    }

    /** Every character that is no digit, at every place of a text. */
    private static void charactersThatAreWrong() {
        String whole = "M0C1,2,3,4,5,6:1@7,2@8/9;";
        for (int place = 0; place < whole.length(); place++) {
            for (char c = 32; c <= 126; c++) {
                boolean digit = c >= '0' && c <= '9';
                // Behind a STEP both a comma and a slash can be.
                boolean behindStep = (place == 18 || place == 22) && (c == ',' || c == '/');
                if (!digit && !behindStep && c != whole.charAt(place)) {
                    String text = whole.substring(0, place) + c + whole.substring(place + 1);
                    due("-1 minus the place of the first character by which it is none", text, -1 - place);
                }
            }
        }
    }

    private static void digitsThatAreWrong() {
        String sentence = "-1 minus the place of the first character, a digit";
        for (char c = '0'; c <= '9'; c++) {
            due(sentence, c + "0" + CLASS, -1);
            due(sentence, "M0" + c + SIX + ":1@1/1;", -3);
            due(sentence, "M0" + CLASS + c, -3 - CLASS.length());
        }
    }

    private static void nothingElseIsThere() {
        String sentence = "Nothing else is there";
        String text = "M0" + CLASS;
        due(sentence, " " + text, -1);
        due(sentence, "M 0" + CLASS, -2);
        due(sentence, "M0 " + CLASS, -3);
        for (String more : new String[] {" ", ";", ",", "0", "M", "M1" + CLASS, "c", "~"}) {
            due(sentence, text + more, -1 - text.length());
            due(sentence, text + CLASS + more, -1 - text.length() - CLASS.length());
        }
        due(sentence, text + "C", -2 - text.length());
        for (int place = 0; place < text.length(); place++) {
            due(sentence, text.substring(0, place) + " " + text.substring(place), -1 - place);
        }
        due(sentence, "M0C-1,2,3,4,5,6:1@1/1;", -4);
        due(sentence, "M0C+1,2,3,4,5,6:1@1/1;", -4);
        due(sentence, "M0C1.0,2,3,4,5,6:1@1/1;", -5);
    }

    private static void numbersOfOneDigit() {
        String sentence = "its number (one digit)";
        due(sentence, "M00" + CLASS, -3);
        due(sentence, "M" + CLASS, -2);
        due(sentence, "M-1" + CLASS, -2);
        due(sentence, "M" + ":" + CLASS, -2);
        due(sentence, "M" + "/" + CLASS, -2);
        due(sentence, "M", -2);
    }

    /** With each count of MAKERS, all ten digits. */
    private static void numbersThatCanNotBe() {
        for (int told = 0; told <= 4; told++) {
            for (int number = 0; number < 10; number++) {
                boolean can = number <= told && number < 4;
                Limits limits = limits("one that is told, or the next one; a number that can not be at M");
                for (int maker = 0; maker < told; maker++) {
                    limits.due(maker).maker("M" + maker + CLASS);
                }
                limits.due(can ? number : -1).maker("M" + number + CLASS);
            }
        }
    }

    private static void numbersAreToldAtOnce() {
        String sentence = "a MAKER's number that can not be at M, at once";
        due(sentence, "M1", -1);
        due(sentence, "M9", -1);
        due(sentence, "M1x", -1);
        due(sentence, "M11" + CLASS, -1);
        due(sentence, "M4" + "C" + SIX + ":0@1/1;", -1);
        due(sentence, "M2" + CLASS.repeat(5), -1);
    }

    private static void oneToFourClasses() {
        String sentence = "CLASSES, numbered from 0, 1 to 4";
        due(sentence, "M0", -3);
        for (int count = 1; count <= 4; count++) {
            Limits limits = limits(sentence);
            StringBuilder text = new StringBuilder("M0");
            for (int i = 0; i < count; i++) {
                text.append("C0,0,0,0,0,0:1@").append(10 + i).append("/1;");
            }
            limits.due(0).maker(text.toString());
            for (int i = 0; i < count; i++) {
                limits.due(10 + i).price(0, i, 1);
            }
            limits.noIndex().price(0, count, 1);
        }
    }

    private static void aFifthClass() {
        String sentence = "a fifth CLASS at its C, when its semicolon has come";
        String four = "M0" + CLASS.repeat(4);
        due(sentence, four, 0);
        due(sentence, four + CLASS, -1 - four.length());
        due(sentence, four + CLASS + CLASS, -1 - four.length());
        due(sentence, four + CLASS + "x", -1 - four.length());
        due(sentence, four + "C0,0,0,0,0,0:0@0/1;", -1 - four.length());
        // Until its semicolon has come it is read as any other.
        due(sentence, four + "x", -1 - four.length());
        for (int length = 1; length < CLASS.length(); length++) {
            due(sentence, four + CLASS.substring(0, length), -1 - four.length() - length);
            due(sentence, four + CLASS.substring(0, length) + "x", -1 - four.length() - length);
        }
    }

    private static void sixLimits() {
        String sentence = "six WHOLES with commas (LIMITS, by KINDS)";
        due(sentence, "M0C:1@1/1;", -4);
        due(sentence, "M0C1:1@1/1;", -5);
        due(sentence, "M0C1,2,3,4,5:1@1/1;", -13);
        due(sentence, "M0C1,2,3,4,5,:1@1/1;", -14);
        due(sentence, "M0C1,2,3,4,5,6,:1@1/1;", -15);
        due(sentence, "M0C1,2,3,4,5,6,7:1@1/1;", -15);
        for (int kind = 0; kind < 6; kind++) {
            Limits limits = limits(sentence);
            limits.maker("M0C11,12,13,14,15,16:1@1/1;");
            // Far on the side that is BEYOND, so that the REMARK tells the LIMIT.
            limits.thing(kind, kind < 4 ? 0 : 1000, 0);
            limits.due(1).run(0, 0);
            limits.due(kind < 4 ? 11 + kind : 1000 - 11 - kind).remark(0, 2);
        }
    }

    private static void oneToFourSteps() {
        String sentence = "1 to 4 STEPS";
        due(sentence, "M0C" + SIX + ":/1;", -16);
        due(sentence, "M0C" + SIX + ":1/1;", -17);
        due(sentence, "M0C" + SIX + ":1@1,/1;", -20);
        due(sentence, "M0C" + SIX + ":1@1;", -19);
        due(sentence, "M0C" + SIX + ":1@1@1/1;", -19);
        String steps = "1@90";
        for (int count = 1; count <= 4; count++) {
            Limits limits = limits(sentence);
            limits.due(0).maker("M0C" + SIX + ":" + steps + "/1;");
            for (int i = 1; i <= count; i++) {
                limits.due(i * (100 - 10 * i)).price(0, 0, i);
            }
            steps = steps + "," + (count + 1) + "@" + (90 - 10 * count);
        }
    }

    private static void aFifthStep() {
        String sentence = "a fifth STEP";
        String four = "C" + SIX + ":1@1,2@1,3@1,4@1";
        due(sentence, "M0" + four + "/1;", 0);
        canNotBe(sentence, four + ",5@1/1;");
        canNotBe(sentence, four + ",5@1,6@1,7@1,8@1,9@1/1;");
        due(sentence, "M0" + four + ",", -4 - four.length());
        due(sentence, "M0" + four + ",5@1", -7 - four.length());
        due(sentence, "M0" + four + ",5@1/1", -9 - four.length());
    }

    private static void wholesOfNoDigit() {
        String sentence = "A WHOLE is one to seven digits: none";
        String[] parts = SIX.split(",");
        for (int kind = 0; kind < 6; kind++) {
            String[] less = parts.clone();
            less[kind] = "";
            due(sentence, "M0C" + String.join(",", less) + ":1@1/1;", -4 - 2 * kind);
        }
        due(sentence, "M0C" + SIX + ":@1/1;", -16);
        due(sentence, "M0C" + SIX + ":1@/1;", -18);
        due(sentence, "M0C" + SIX + ":1@1/;", -20);
        due(sentence, "M0C" + SIX + ":1@1,@1/1;", -20);
        due(sentence, "M0C" + SIX + ":1@1,2@/1;", -22);
    }

    private static void wholesOfSevenDigits() {
        Limits limits = limits("A WHOLE is one to seven digits: seven");
        limits.due(0).maker("M0C0000001,0000002,0000003,0000004,0000005,0000006:0000007@0000008/0000009;");
        limits.due(64).price(0, 0, 8);
        limits.due(0).order(0, 8, 1);
        limits.due(9).history(0, 3);
        limits.due(0).maker("M0C0000000,000000,00000,0000,000,00:01@002/0003;");
        limits.due(16).price(0, 0, 8);
    }

    private static void wholesOfEightDigits() {
        String sentence = "A WHOLE is one to seven digits: eight";
        for (String eight : new String[] {"00000001", "12345678", "99999999"}) {
            String[] parts = SIX.split(",");
            for (int kind = 0; kind < 6; kind++) {
                String[] longer = parts.clone();
                longer[kind] = eight;
                due(sentence, "M0C" + String.join(",", longer) + ":1@1/1;", -11 - 2 * kind);
            }
            due(sentence, "M0C" + SIX + ":" + eight + "@1/1;", -23);
            due(sentence, "M0C" + SIX + ":1@" + eight + "/1;", -25);
            due(sentence, "M0C" + SIX + ":1@1/" + eight + ";", -27);
        }
    }

    private static void limitsAboveAMillion() {
        String sentence = "a LIMIT above 1,000,000";
        for (int kind = 0; kind < 6; kind++) {
            String[] parts = SIX.split(",");
            for (String most : new String[] {"1000000", "0"}) {
                parts[kind] = most;
                due(sentence, "M0C" + String.join(",", parts) + ":1@1/1;", 0);
            }
            for (String more : new String[] {"1000001", "9999999"}) {
                parts[kind] = more;
                canNotBe(sentence, "C" + String.join(",", parts) + ":1@1/1;");
            }
        }
    }

    private static void fromsAboveAMillion() {
        String sentence = "a from above 1,000,000";
        for (String ahead : new String[] {"", "1@1,", "1@1,2@1,", "1@1,2@1,3@1,"}) {
            due(sentence, "M0C" + SIX + ":" + ahead + "1000000@1/1;", 0);
            canNotBe(sentence, "C" + SIX + ":" + ahead + "1000001@1/1;");
            canNotBe(sentence, "C" + SIX + ":" + ahead + "9999999@1/1;");
        }
    }

    private static void centsAboveAMillion() {
        String sentence = "cents above 1,000,000";
        for (String ahead : new String[] {"", "1@1,", "1@1,2@1,", "1@1,2@1,3@1,"}) {
            due(sentence, "M0C" + SIX + ":" + ahead + "9@1000000/1;", 0);
            canNotBe(sentence, "C" + SIX + ":" + ahead + "9@1000001/1;");
            canNotBe(sentence, "C" + SIX + ":" + ahead + "9@9999999/1;");
        }
        canNotBe(sentence, "C" + SIX + ":1@1000001,2@1/1;");
    }

    private static void fromsOfZero() {
        String sentence = "from 0";
        due(sentence, "M0C" + SIX + ":1@1/1;", 0);
        canNotBe(sentence, "C" + SIX + ":0@1/1;");
        canNotBe(sentence, "C" + SIX + ":0000000@1/1;");
        canNotBe(sentence, "C" + SIX + ":0@1,1@1/1;");
    }

    private static void centsOfZero() {
        String sentence = "cents 0";
        due(sentence, "M0C" + SIX + ":1@1/1;", 0);
        canNotBe(sentence, "C" + SIX + ":1@0/1;");
        canNotBe(sentence, "C" + SIX + ":1@0000000/1;");
        canNotBe(sentence, "C" + SIX + ":1@0,2@1/1;");
        canNotBe(sentence, "C" + SIX + ":1@1,2@0/1;");
        canNotBe(sentence, "C" + SIX + ":1@1,2@1,3@1,4@0/1;");
    }

    private static void fromsThatDoNotRise() {
        String sentence = "a from that is not above the one ahead";
        due(sentence, "M0C" + SIX + ":1@1,2@1/1;", 0);
        due(sentence, "M0C" + SIX + ":999997@1,999998@1,999999@1,1000000@1/1;", 0);
        String[] steps = {"1@1,1@1", "2@1,1@1", "1@1,0@1", "1@3,2@2,2@1", "1@3,3@2,2@1", "5@3,6@2,1@1",
            "1@1,2@1,3@1,3@1", "1@1,2@1,9@1,8@1", "1000000@1,1000000@1", "1000000@1,999999@1"};
        for (String these : steps) {
            canNotBe(sentence, "C" + SIX + ":" + these + "/1;");
        }
        // Each CLASS begins its STEPS anew.
        due(sentence, "M0C" + SIX + ":9@1/1;" + CLASS, 0);
    }

    private static void daysAboveAThousand() {
        String sentence = "days above 1,000";
        due(sentence, "M0C" + SIX + ":1@1/1000;", 0);
        due(sentence, "M0C" + SIX + ":1@1/0;", 0);
        canNotBe(sentence, "C" + SIX + ":1@1/1001;");
        canNotBe(sentence, "C" + SIX + ":1@1/1000000;");
        canNotBe(sentence, "C" + SIX + ":1@1/9999999;");
    }

    private static void faultsWaitForTheSemicolon() {
        String sentence = "a CLASS that can not be at its C, when its semicolon has come";
        String[] grades = {"C1000001,2,3,4,5,6:1@1/1;", "C" + SIX + ":0@1/1;", "C" + SIX + ":1@0/1;",
            "C" + SIX + ":1000001@1/1;", "C" + SIX + ":1@1000001/1;", "C" + SIX + ":2@1,1@1/1;",
            "C" + SIX + ":1@1,2@1,3@1,4@1,5@1/1;", "C" + SIX + ":1@1/1001;"};
        for (String grade : grades) {
            String open = grade.substring(0, grade.length() - 1);
            due(sentence, "M0" + open, -3 - open.length());
            due(sentence, "M0" + open + "x", -3 - open.length());
            due(sentence, "M0" + open + ",", -3 - open.length());
            due(sentence, "M0" + grade, -3);
            due(sentence, "M0" + grade + "x", -3);
            due(sentence, "M0" + grade + "C", -3);
        }
    }

    private static void theFirstFaultIsTold() {
        String sentence = "the first character by which it is none";
        String bad = "C" + SIX + ":0@1/1;";
        due(sentence, "M0" + bad + bad, -3);
        due(sentence, "M0" + CLASS + bad + bad, -3 - CLASS.length());
        due(sentence, "M0" + CLASS.repeat(3) + bad + CLASS, -3 - 3 * CLASS.length());
        due(sentence, "M0Cx" + bad, -4);
        due(sentence, "M0C1,,3,4,5,:1@1/1;", -6);
        due(sentence, "x9", -1);
        due(sentence, "M0" + CLASS + "x" + bad, -3 - CLASS.length());
    }

    private static void allMakersStay() {
        String[] wrong = {"M0" + CLASS + "x", "M0" + CLASS + "C1", "M0" + CLASS + "C" + SIX + ":0@1/1;",
            "M1C" + SIX + ":1@1/1001;", "M2" + CLASS + "x", "M2" + CLASS.repeat(5), "M3" + CLASS, "M0", "M2", ""};
        for (String text : wrong) {
            Limits limits = limits("then all MAKERS stay");
            limits.maker("M0" + Limits.COARSE + Limits.FINE);
            limits.maker("M1" + Limits.ALL);
            limits.maker(text);
            limits.due(3000).price(0, 0, 10);
            limits.due(9000).price(0, 1, 10);
            limits.noIndex().price(0, 2, 10);
            limits.due(10000).price(1, 0, 10);
            limits.noIndex().price(1, 1, 10);
            limits.noIndex().least(2);
            limits.due(-1).maker("M3" + CLASS);
            limits.due(2).maker("M2" + CLASS);
        }
    }
}
