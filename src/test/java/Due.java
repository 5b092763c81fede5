/** Counts checks, and prints each one whose answer is not the one that is due. */
final class Due {
    private static final int MOST_PRINTED = 200;

    private int right;
    private int wrong;

    void same(String test, String call, long got, long want) {
        if (got == want) {
            right++;
            return;
        }
        wrong++;
        if (wrong <= MOST_PRINTED) {
            System.out.println(test + ": " + call + " answered " + got + ", due is " + want);
        }
    }

    int right() {
        return right;
    }

    int wrong() {
        return wrong;
    }
}
