/** Tells every answer that is not the one that is due. */
final class Check {
    private static final int SHOWN = 40;
    private String under = "";
    private int wrong;
    private int asked;

    /** What is asked from now on is told under these words. */
    void under(String words) {
        under = words + ": ";
    }

    int asked() {
        return asked;
    }

    void due(String call, long got, long want) {
        asked++;
        if (got != want) {
            wrong++;
            if (wrong <= SHOWN) {
                System.out.println(under + call + " answered " + got + ", due is " + want);
            }
        }
    }

    void due(String call, int[] got, int... want) {
        due(call + " " + java.util.Arrays.toString(got) + " for " + java.util.Arrays.toString(want),
            java.util.Arrays.equals(got, want) ? 1 : 0, 1);
    }

    void holds(String what, boolean good) {
        due(what, good ? 1 : 0, 1);
    }

    void end() {
        System.out.println(wrong == 0 ? asked + " answers are as due" : wrong + " of " + asked + " answers are not as due");
        if (wrong != 0) {
            System.exit(1);
        }
    }
}
