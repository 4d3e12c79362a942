/** Promise 2: unit(). */
public final class UnitTest {
    /** 121 characters. */
    private static final String WIDE = "C0000001,0000002,0000003,0000004,0000005,0000006:"
            + "0000001@0000009,0000002@0000008,0000003@0000007,0000004@0000006/0000001;";
    /** 365 characters. */
    private static final String WIDE_TEXT = "M0" + WIDE.repeat(3);

    public static void main(String[] args) {
        charactersAreTaken();
        charactersAreRefused();
        refusedCharactersAreNotInTheText();
        aTextHas400Characters();
        aTextOf400IsRead();
        a401stIsNotInTheText();
        aTextBehindAFullOne();
        Due.end();
    }

    private static void charactersAreTaken() {
        Limits limits = new Limits(2, "One more character of the text: true");
        for (int u = 32; u <= 126; u++) {
            limits.due(true).unit(u);
        }
        limits = new Limits(2, "One more character of the text");
        limits.due(-2).maker("M ");
        limits.due(-3).maker("M0~");
        limits.due(0).maker("M0" + Limits.FINE);
    }

    private static void charactersAreRefused() {
        Limits limits = new Limits(2, "false, when it is not 32 .. 126");
        for (int u = -32; u <= 31; u++) {
            limits.due(false).unit(u);
        }
        for (int u = 127; u <= 300; u++) {
            limits.due(false).unit(u);
        }
        // These would be characters if they were cut to 8, 16 or 31 bits.
        int[] others = {256 + 'M', 65536 + 'M', -65536 + 'M', -256 + 'M', Integer.MIN_VALUE + 'M',
            Integer.MIN_VALUE, Integer.MAX_VALUE};
        for (int u : others) {
            limits.due(false).unit(u);
        }
        limits.due(-1).maker();
    }

    private static void refusedCharactersAreNotInTheText() {
        Limits limits = new Limits(2, "false: the text stays as it was");
        String text = "M0" + Limits.FINE;
        for (int i = 0; i < text.length(); i++) {
            limits.due(false).unit(i % 2 == 0 ? 31 : 127);
            limits.due(true).unit(text.charAt(i));
        }
        limits.due(false).unit(10);
        limits.due(0).maker();
    }

    private static void aTextHas400Characters() {
        Limits limits = new Limits(2, "false, when there are 400");
        for (int i = 0; i < 400; i++) {
            limits.due(true).unit('~');
        }
        limits.due(false).unit('~');
        limits.due(false).unit(' ');
        limits.due(false).unit(31);
        limits.due(-1).maker();
    }

    private static void aTextOf400IsRead() {
        Limits limits = new Limits(2, "a text of 400 characters");
        limits.due(0).maker(WIDE_TEXT + "C0000001,0000002,3,4,5,6:00001@1/1;");
        limits.due(5).price(0, 3, 5);
        limits.due(30).price(0, 2, 5);
    }

    private static void a401stIsNotInTheText() {
        Limits limits = new Limits(2, "false, when there are 400: it is not in the text");
        limits.write(WIDE_TEXT + "C0000001,0000002,3,4,5,6:000001@1/1");
        limits.due(false).unit(';');
        limits.due(-401).maker();
        limits.noIndex().least(0);
    }

    private static void aTextBehindAFullOne() {
        Limits limits = new Limits(2, "false, when there are 400: not in the next text");
        limits.write("x".repeat(400));
        limits.due(false).unit('x');
        limits.due(-1).maker();
        limits.due(0).maker("M0" + Limits.COARSE + Limits.FINE);
    }
}
