/** The edges of all calls that throw: which exception goes first, and that nothing is changed by one. */
final class RefusalEdgesTest {
    private static final String PICTURE = ".........|.........|....##...|.........|#.#.#.#..|"
        + ".........|.........|.........|.........";
    private static final Class<?> OUTSIDE = IndexOutOfBoundsException.class;
    private static final Class<?> WRONG = IllegalArgumentException.class;
    private static final Class<?> NOT_NOW = IllegalStateException.class;
    private static final Class<?> NO_ROOM = UnsupportedOperationException.class;

    interface Throwing {
        Object callOn(SkewFind x);
    }

    public static void main(String[] args) {
        Check.sentence("Promise 2", "Of several that a call names, the first one", RefusalEdgesTest::firstOfPut);
        Check.sentence("Promise 8", "Of several that a call names, the first one", RefusalEdgesTest::firstOfTurn);
        Check.sentence("Promise 14", "Of several that a call names, the first one", RefusalEdgesTest::firstOfLine);
        Check.sentence("Promise 13", "there is no such .. band (before NONE for another what)",
            RefusalEdgesTest::bandBeforeWhat);
        Check.sentence("Promise 2", "A call that throws changes nothing", RefusalEdgesTest::putChangesNothing);
        Check.sentence("Promise 3", "A call that throws changes nothing", RefusalEdgesTest::atChangesNothing);
        Check.sentence("Promise 4", "A call that throws changes nothing", RefusalEdgesTest::sumChangesNothing);
        Check.sentence("Promise 5", "A call that throws changes nothing", RefusalEdgesTest::angleChangesNothing);
        Check.sentence("Promises 6 and 7", "A call that throws changes nothing",
            RefusalEdgesTest::sureAndMeanChangeNothing);
        Check.sentence("Promise 8", "A call that throws changes nothing", RefusalEdgesTest::turnChangesNothing);
        Check.sentence("Promises 10 and 11", "A call that throws changes nothing",
            RefusalEdgesTest::sidesChangeNothing);
        Check.sentence("Promises 13 and 14", "A call that throws changes nothing",
            RefusalEdgesTest::bandsChangeNothing);
        Check.end();
    }

    private static void firstOfPut() {
        SkewFind x = Check.drawn("#..|.#.");
        for (int n : new int[] {0, -1, Integer.MIN_VALUE}) {
            Check.dueThrow("put(3, 0, " + n + ", true)", OUTSIDE, x, () -> x.put(3, 0, n, true));
            Check.dueThrow("put(-1, 1, " + n + ", true)", OUTSIDE, x, () -> x.put(-1, 1, n, true));
            Check.dueThrow("put(0, 2, " + n + ", false)", OUTSIDE, x, () -> x.put(0, 2, n, false));
            Check.dueThrow("put(0, -1, " + n + ", false)", OUTSIDE, x, () -> x.put(0, -1, n, false));
            Check.dueThrow("put(0, 0, " + n + ", true)", WRONG, x, () -> x.put(0, 0, n, true));
        }
    }

    private static void firstOfTurn() {
        SkewFind x = Check.drawn(PICTURE);
        for (int i = 0; i < 16; i++) {
            x.turn(100 * i, true);
        }
        for (int angle : new int[] {2001, -2001, Integer.MAX_VALUE, Integer.MIN_VALUE}) {
            Check.dueThrow("turn(" + angle + ", true)", WRONG, x, () -> x.turn(angle, true));
            Check.dueThrow("turn(" + angle + ", false)", WRONG, x, () -> x.turn(angle, false));
        }
        Check.dueThrow("turn(2000, true)", NO_ROOM, x, () -> x.turn(2000, true));
        Check.dueThrow("turn(-2000, true)", NO_ROOM, x, () -> x.turn(-2000, true));
    }

    private static void firstOfLine() {
        SkewFind x = Check.drawn(PICTURE);
        SkewFind empty = new SkewFind(5, 5);
        for (double v : new double[] {1000.5, -1000.5, Double.NaN, Double.POSITIVE_INFINITY}) {
            Check.dueThrow("line(2, " + v + ")", OUTSIDE, x, () -> x.line(2, v));
            Check.dueThrow("line(-1, " + v + ")", OUTSIDE, x, () -> x.line(-1, v));
            Check.dueThrow("line(0, " + v + ") of nothing", OUTSIDE, empty, () -> empty.line(0, v));
            Check.dueThrow("line(1, " + v + ")", WRONG, x, () -> x.line(1, v));
        }
    }

    private static void bandBeforeWhat() {
        SkewFind x = Check.drawn(PICTURE);
        SkewFind empty = new SkewFind(5, 5);
        for (int what : new int[] {-1, 3, Integer.MAX_VALUE}) {
            Check.dueThrow("band(2, " + what + ")", OUTSIDE, x, () -> x.band(2, what));
            Check.dueThrow("band(-1, " + what + ")", OUTSIDE, x, () -> x.band(-1, what));
            Check.dueThrow("band(0, " + what + ") of nothing", OUTSIDE, empty, () -> empty.band(0, what));
        }
    }

    /** A picture that was turned twice, then cropped at each side, and whose best angle was asked for. */
    private static SkewFind used() {
        SkewFind x = Check.drawn(PICTURE);
        x.turn(2000, true);
        x.turn(-900, true);
        for (int side = 0; side < 4; side++) {
            x.crop(side);
        }
        x.angle(700);
        return x;
    }

    /** All that is told before and after is the same, and so is all that the turns back bring. */
    private static void dueNothingChanged(String name, Class<?> want, Throwing call) {
        SkewFind x = used();
        Check.dueThrow(name, want, x, () -> call.callOn(x));
        SkewFind other = used();
        for (int left = 1; left >= -1; left--) {
            Check.due("back() after " + name, left, x.back());
            other.back();
            Check.due("the state after back() after " + name, Check.stateOf(other), Check.stateOf(x));
        }
        Check.due("the picture turned back after " + name, PICTURE, Check.pictureOf(x));
    }

    private static void putChangesNothing() {
        dueNothingChanged("put(9, 0, 1, true)", OUTSIDE, x -> x.put(9, 0, 1, true));
        dueNothingChanged("put(-1, 0, 5, true)", OUTSIDE, x -> x.put(-1, 0, 5, true));
        dueNothingChanged("put(0, 9, 9, true)", OUTSIDE, x -> x.put(0, 9, 9, true));
        dueNothingChanged("put(0, -1, 9, true)", OUTSIDE, x -> x.put(0, -1, 9, true));
        dueNothingChanged("put(0, 0, 0, true)", WRONG, x -> x.put(0, 0, 0, true));
        dueNothingChanged("put(4, 4, -3, false)", WRONG, x -> x.put(4, 4, -3, false));
    }

    private static void atChangesNothing() {
        dueNothingChanged("at(9, 0)", OUTSIDE, x -> x.at(9, 0));
        dueNothingChanged("at(0, -1)", OUTSIDE, x -> x.at(0, -1));
    }

    private static void sumChangesNothing() {
        dueNothingChanged("sum(2001)", WRONG, x -> x.sum(2001));
        dueNothingChanged("sum(-2001)", WRONG, x -> x.sum(-2001));
    }

    private static void angleChangesNothing() {
        dueNothingChanged("angle(2001)", WRONG, x -> x.angle(2001));
        dueNothingChanged("angle(-1)", WRONG, x -> x.angle(-1));
        SkewFind fresh = Check.drawn(PICTURE);
        Check.dueThrow("angle(2001), the first one", WRONG, fresh, () -> fresh.angle(2001));
        Check.dueThrow("sure() after it", NOT_NOW, fresh, fresh::sure);
    }

    private static void sureAndMeanChangeNothing() {
        SkewFind x = Check.drawn(PICTURE);
        x.turn(1300, true);
        x.crop(1);
        Check.dueThrow("sure()", NOT_NOW, x, x::sure);
        Check.dueThrow("mean()", NOT_NOW, x, x::mean);
        Check.dueThrow("sure() once more", NOT_NOW, x, x::sure);
        Check.due("back()", 0, x.back());
        Check.due("the picture turned back", PICTURE, Check.pictureOf(x));
    }

    private static void turnChangesNothing() {
        dueNothingChanged("turn(2001, true)", WRONG, x -> x.turn(2001, true));
        dueNothingChanged("turn(-2001, true)", WRONG, x -> x.turn(-2001, true));
        dueNothingChanged("turn(2001, false)", WRONG, x -> x.turn(2001, false));
        dueNothingChanged("turn(-2001, false)", WRONG, x -> x.turn(-2001, false));
        SkewFind full = Check.drawn(PICTURE);
        for (int i = 0; i < 16; i++) {
            full.turn(125 * i - 1000, true);
        }
        full.crop(0);
        full.angle(500);
        Check.dueThrow("turn(1500, true) without room", NO_ROOM, full, () -> full.turn(1500, true));
        for (int left = 15; left >= 0; left--) {
            Check.due("back()", left, full.back());
        }
        Check.due("the picture after 16 turns back", PICTURE, Check.pictureOf(full));
    }

    private static void sidesChangeNothing() {
        dueNothingChanged("crop(4)", OUTSIDE, x -> x.crop(4));
        dueNothingChanged("crop(-1)", OUTSIDE, x -> x.crop(-1));
        dueNothingChanged("size(4)", OUTSIDE, x -> x.size(4));
        dueNothingChanged("size(-1)", OUTSIDE, x -> x.size(-1));
        SkewFind open = Check.drawn(PICTURE);
        Check.dueThrow("crop(4) of the whole picture", OUTSIDE, open, () -> open.crop(4));
        Check.dueThrow("crop(-1) of the whole picture", OUTSIDE, open, () -> open.crop(-1));
    }

    private static void bandsChangeNothing() {
        dueNothingChanged("band(9, 0)", OUTSIDE, x -> x.band(9, 0));
        dueNothingChanged("band(-1, 0)", OUTSIDE, x -> x.band(-1, 0));
        dueNothingChanged("line(9, 0.0)", OUTSIDE, x -> x.line(9, 0.0));
        dueNothingChanged("line(-1, 0.0)", OUTSIDE, x -> x.line(-1, 0.0));
        dueNothingChanged("line(0, 1000.5)", WRONG, x -> x.line(0, 1000.5));
        dueNothingChanged("line(0, -1000.5)", WRONG, x -> x.line(0, -1000.5));
    }
}
