/** Texts of MAKERS, for tests. */
final class Texts {
    /** Limits 10,10,20,5,4,100; from 1 at 500 cents, from 10 at 300; 7 days. */
    static final String COARSE = "C10,10,20,5,4,100:1@500,10@300/7;";
    /** Limits 5,5,10,3,8,200; from 5 at 900 cents; 3 days. */
    static final String FINE = "C5,5,10,3,8,200:5@900/3;";
    /** Nothing is BEYOND it. */
    static final String ALL = "C0,0,0,0,1000000,1000000:1@1000/1;";

    private Texts() {
    }

    static int maker(MakingLimits limits, String text) {
        write(limits, text);
        return limits.maker();
    }

    static void write(MakingLimits limits, String text) {
        for (int i = 0; i < text.length(); i++) {
            if (!limits.unit(text.charAt(i))) {
                throw new IllegalStateException("the text was not taken: " + text);
            }
        }
    }
}
