/** Promises 25 to 28: texts. */
final class TextsTest {
    private static final int INVALID = Calls.INVALID;
    private static final int IMPOSSIBLE = Calls.IMPOSSIBLE;
    private static final int LIMIT = Calls.LIMIT;
    private static final int NOTHING = Calls.NOTHING;

    private static final String TEN_TERMS = "1+1+1+1+1+1+1+1+1+1";

    private TextsTest() {
    }

    static void check(Due due) {
        type(new Calls(due, "promise 25"));
        clearText(new Calls(due, "promise 26"));
        fault(new Calls(due, "promise 27"));
        faultOfSigns(new Calls(due, "promise 27, signs"));
        faultOfNumbers(new Calls(due, "promise 27, numbers"));
        faultOfLetters(new Calls(due, "promise 27, letters"));
        faultOfManyTerms(new Calls(due, "promise 27, many terms"));
        read(new Calls(due, "promise 28"));
        readKeepsTheRest(new Calls(due, "promise 28, the rest"));
    }

    private static void type(Calls c) {
        c.type(31, INVALID);
        c.type(127, INVALID);
        c.type(-1, INVALID);
        c.type(Integer.MAX_VALUE, INVALID);
        c.type(Integer.MIN_VALUE, INVALID);
        c.count(6, 0);
        c.type(32, 1);
        c.type(126, 2);
        for (int i = 3; i <= 60; i++) {
            c.type('1', i);
        }
        c.type('1', LIMIT);
        c.type(127, INVALID);
        c.count(6, 60);
        c.count(5, 0);
        c.clearText(60);
        c.type('1', 1);
    }

    private static void clearText(Calls c) {
        c.clearText(0);
        c.write("3x");
        c.clearText(2);
        c.count(6, 0);
        c.count(5, 0);
        c.fault(0, 0);
        c.fault(1, 1);
        c.clearText(0);
        c.readOf("y", 1);
        c.termIs(0, 1, 0, 1, 0);
        c.clearText(1);
        c.count(5, 1);
    }

    private static void fault(Calls c) {
        c.fault(-1, INVALID);
        c.fault(2, INVALID);
        c.fault(Integer.MIN_VALUE, INVALID);
        c.faultOf("", 0, 1);
        c.faultOf(" ", 0, 1);
        c.faultOf("x y", 1, 1);
        c.faultOf("X", 0, 1);
        c.faultOf("x*y", 1, 1);
        c.faultOf("w", 0, 1);
        c.faultOf("{", 0, 1);
        c.faultOf("3x^2", 2, 1);
        c.faultOf("x/y", 1, 1);
        c.faultOf("x:", 1, 1);
        c.faultOf("x,y", 1, 1);
        c.faultOf("x~", 1, 1);
        c.fault(2, INVALID);
        c.write("x");
        c.fault(0, NOTHING);
        c.fault(1, NOTHING);
        c.fault(2, INVALID);
        c.count(5, 0);
        c.count(1, 0);
    }

    private static void faultOfSigns(Calls c) {
        c.faultOf("+x", 0, 1);
        c.faultOf("-", 1, 1);
        c.faultOf("--x", 1, 1);
        c.faultOf("-+x", 1, 1);
        c.faultOf("x+", 2, 1);
        c.faultOf("x-", 2, 1);
        c.faultOf("x+-y", 2, 1);
        c.faultOf("x--y", 2, 1);
        c.faultOf("x++y", 2, 1);
        c.faultOf("5-", 2, 1);
        c.readOf("-x", 1);
        c.termIs(0, -1, 1, 0, 0);
        c.readOf("-5-5", 2);
        c.termIs(1, -5, 0, 0, 0);
    }

    private static void faultOfNumbers(Calls c) {
        c.faultOf("0", 0, 1);
        c.faultOf("0x", 0, 1);
        c.faultOf("-0", 1, 1);
        c.faultOf("x+0", 2, 1);
        c.faultOf("x+01", 2, 1);
        c.faultOf("100", 2, 1);
        c.faultOf("123x", 2, 1);
        c.faultOf("x2", 1, 1);
        c.faultOf("xy0", 2, 1);
        c.faultOf("3x4", 2, 1);
        c.faultOf("x-12y9", 5, 1);
        c.readOf("10", 1);
        c.termIs(0, 10, 0, 0, 0);
        c.readOf("90x+99-99y", 3);
        c.termIs(0, 90, 1, 0, 0);
        c.termIs(1, 99, 0, 0, 0);
        c.termIs(2, -99, 0, 1, 0);
    }

    private static void faultOfLetters(Calls c) {
        c.faultOf("z", 0, 2);
        c.faultOf("2xz", 2, 2);
        c.faultOf("x+y-z", 4, 2);
        c.faultOf("xxxxx", 4, 3);
        c.faultOf("99xyxyx", 6, 3);
        c.faultOf("xxxxz", 4, 2);
        c.faultOf("xxxx0", 4, 1);
        c.faultOf("xxxx+xxxxy", 9, 3);
        c.faultOf("z?", 0, 2);
        c.faultOf("?z", 0, 1);
        c.readOf("xyxy", 1);
        c.termIs(0, 1, 2, 2, 0);
        c.variables(1, 2);
        c.faultOf("xy", 1, 2);
        c.faultOf("xxxxy", 4, 2);
        c.write("xzy");
        c.fault(0, 1);
        c.variables(2, 1);
        c.fault(0, 1);
        c.fault(1, 2);
        c.variables(3, 2);
        c.fault(0, NOTHING);
        c.read(1);
        c.termIs(0, 1, 1, 1, 1);
        c.faultOf("xyzxz", 4, 3);
        c.readOf("-zzzz", 1);
        c.termIs(0, -1, 0, 0, 4);
    }

    private static void faultOfManyTerms(Calls c) {
        c.readOf(TEN_TERMS, 10);
        c.readOf("-" + TEN_TERMS, 10);
        c.faultOf(TEN_TERMS + "+1", 19, 4);
        c.faultOf(TEN_TERMS + "-x", 19, 4);
        c.faultOf("-" + TEN_TERMS + "-1", 20, 4);
        c.faultOf(TEN_TERMS + "+", 19, 4);
        c.faultOf(TEN_TERMS + "+?", 19, 4);
        c.faultOf(TEN_TERMS + "?+1", 19, 1);
        c.faultOf(TEN_TERMS + "z+1", 19, 2);
        c.faultOf("1+1+1+1+1+1+1+1+1+", 18, 1);
        c.faultOf("1+1+1+1+1+1+1+1+1++1", 18, 1);
        c.readOf("99xyxy-99xyxy+99xyxy-99xyxy+99xyxy-99xyxy+99xyxy-9x+9y-9", 10);
        c.count(6, 56);
    }

    private static void read(Calls c) {
        c.read(IMPOSSIBLE);
        c.readOf("3xx-12x+yy", 3);
        c.count(1, 3);
        c.termIs(0, 3, 2, 0, 0);
        c.termIs(1, -12, 1, 0, 0);
        c.termIs(2, 1, 0, 2, 0);
        c.value(2, 1, 0, 0, -11);
        c.count(5, 1);
        c.count(6, 10);
        c.readOf("yx", 1);
        c.count(1, 1);
        c.termIs(0, 1, 1, 1, 0);
        c.termOf(1, 0, NOTHING);
        c.term(4, 0, 0, 0, 2);
        c.read(1);
        c.count(1, 1);
        c.type('!', 3);
        c.read(IMPOSSIBLE);
        c.count(1, 1);
        c.count(5, 4);
        c.undo(3);
        c.count(1, 2);
        c.count(6, 3);
    }

    private static void readKeepsTheRest(Calls c) {
        c.term(1, 1, 0, 0, 1);
        c.bound(1, -20, 20, 1);
        c.order(1, 1, 0);
        c.poll(1);
        c.readOf("yy", 1);
        c.count(1, 1);
        c.count(3, 1);
        c.count(4, 1);
        c.count(11, -20);
        c.placeIs(-4, 0, 0, 8);
        c.accountsAre(1, 1, 4, 1);
        c.directionOf(1, 3, 1);
    }
}
