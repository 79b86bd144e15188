/** The edges of promises 8 and 9: each sentence of the document that names one has its own checks. */
final class TurnEdgesTest {
    private static final String FULL = "#####|#####|#####|#####|#####";

    public static void main(String[] args) {
        Check.sentence("Promise 8", "TURNED by an angle, -2000 .. 2000", TurnEdgesTest::widestAngles);
        Check.sentence("Promise 8", "another number is none that is told", TurnEdgesTest::widerAngles);
        Check.sentence("Promise 8", "Its middle is at cx = (width - 1) / 2.0", TurnEdgesTest::middleOfEvenWidth);
        Check.sentence("Promise 8", "cy likewise by the height", TurnEdgesTest::middleOfEvenHeight);
        Check.sentence("Promise 8", "t = SLOPE of a / 2.0 (a is odd)", TurnEdgesTest::halfOfAnOddAngle);
        Check.sentence("Promise 8", "leaves a row .. on one end comes in at the other one (to the right)",
            TurnEdgesTest::leavesAtTheRight);
        Check.sentence("Promise 8", "leaves a row .. on one end comes in at the other one (to the left)",
            TurnEdgesTest::leavesAtTheLeft);
        Check.sentence("Promise 8", "leaves a .. column on one end comes in at the other one (downward)",
            TurnEdgesTest::leavesBelow);
        Check.sentence("Promise 8", "leaves a .. column on one end comes in at the other one (upward)",
            TurnEdgesTest::leavesAbove);
        Check.sentence("Promise 8", "comes in at the other one (more than once around)", TurnEdgesTest::farAround);
        Check.sentence("Promise 8", "how many samples are on then (exactly: as many as before)",
            TurnEdgesTest::noneIsLost);
        Check.sentence("Promise 8", "off if that is not in the picture", TurnEdgesTest::offFromOutside);
        Check.sentence("Promise 8", "off if that is not in the picture (each side)", TurnEdgesTest::eachSideOutside);
        Check.sentence("Promise 8", "how many samples are on then (by sampling: fewer)", TurnEdgesTest::someAreLost);
        Check.sentence("Promise 8", "exactly, and 16 turns can go BACK", TurnEdgesTest::sixteenTurns);
        Check.sentence("Promise 8", "exactly, and 16 turns can go BACK (not by sampling)",
            TurnEdgesTest::samplingHasRoom);
        Check.sentence("Promise 9", "BACK by the latest exact turn", TurnEdgesTest::latestFirst);
        Check.sentence("Promise 9", "each by as much to the other side", TurnEdgesTest::comesBackExactly);
        Check.sentence("Promise 9", "turns before one by sampling .. are forgotten", TurnEdgesTest::samplingForgets);
        Check.sentence("Promise 9", "and before clear(), are forgotten", TurnEdgesTest::clearForgets);
        Check.sentence("Promise 9", "are forgotten (by nothing else)", TurnEdgesTest::othersKeep);
        Check.sentence("Promise 9", "how many turns can go BACK then", TurnEdgesTest::howManyAreLeft);
        Check.sentence("Promise 9", "NONE if there was none", TurnEdgesTest::noneWasThere);
        Check.end();
    }

    // 9 by 9 at 2000: the rows go by 1 1 0 0 0 0 0 -1 -1, twice, the columns by -1 -1 -1 0 0 0 1 1 1.
    private static final String LEVEL = ".........|.........|.........|.........|#########|"
        + ".........|.........|.........|.........";

    private static void widestAngles() {
        Check.dueTurned(LEVEL, 2000, true, ".........|.........|.........|###......|...###...|"
            + "......###|.........|.........|.........");
        Check.dueTurned(LEVEL, -2000, true, ".........|.........|.........|......###|...###...|"
            + "###......|.........|.........|.........");
        Check.dueTurned(LEVEL, 2000, false, ".........|.........|.........|###......|...###...|"
            + "......###|.........|.........|.........");
        Check.dueTurned(LEVEL, -2000, false, ".........|.........|.........|......###|...###...|"
            + "###......|.........|.........|.........");
        Check.dueTurned(LEVEL, 0, true, LEVEL);
        Check.dueTurned(LEVEL, 0, false, LEVEL);
    }

    private static void widerAngles() {
        SkewFind x = Check.drawn(LEVEL);
        x.turn(700, true);
        x.angle(200);
        x.crop(3);
        int[] angles = {2001, -2001, 2002, -2002, 18000, Integer.MAX_VALUE, Integer.MIN_VALUE};
        for (int angle : angles) {
            Class<?> wrong = IllegalArgumentException.class;
            Check.dueThrow("turn(" + angle + ", true)", wrong, x, () -> x.turn(angle, true));
            Check.dueThrow("turn(" + angle + ", false)", wrong, x, () -> x.turn(angle, false));
        }
        Check.due("back() after turns that were refused", 0, x.back());
        Check.due("the picture after them", LEVEL, Check.pictureOf(x));
    }

    // 4 wide, thus cx is 1.5: the columns go by WHOLE(-0.513) = -1, 0, 0 and 1. With 1 or 2 they would not.
    private static void middleOfEvenWidth() {
        Check.dueTurned("....|####|....|....", 2000, true, "#...|.##.|...#|....");
        Check.dueTurned("....|####|....|....", -2000, true, "...#|.##.|#...|....");
        Check.dueTurned("....|####|....|....", 2000, false, "#...|.###|...#|....");
        // By 0 each sample stays, whatever the middle is.
        Check.dueTurned("#..#|.#..", 0, false, "#..#|.#..");
        Check.dueTurned("#..#|.#..", 0, true, "#..#|.#..");
    }

    // 6 high, thus cy is 2.5: at 2000 rows 0 and 5 go by WHOLE(0.4408..) = 0; 8 high, thus 3.5: by WHOLE(0.617..) = 1.
    private static void middleOfEvenHeight() {
        Check.dueMoved(3, 6, Check.place(0, 0), 2000, true, Check.place(0, 0));
        Check.dueMoved(3, 6, Check.place(0, 5), 2000, true, Check.place(0, 5));
        Check.dueMoved(3, 8, Check.place(0, 0), 2000, true, Check.place(2, 0));
        Check.dueMoved(3, 8, Check.place(2, 7), 2000, true, Check.place(0, 7));
        Check.dueMoved(3, 8, Check.place(0, 1), 2000, true, Check.place(0, 1));
        Check.dueMoved(3, 8, Check.place(2, 6), 2000, true, Check.place(2, 6));
        Check.dueTurned(".#..|.#..|.#..|.#..", 2000, false, ".##.|.#..|.#..|#...");
    }

    // 3 * SLOPE of 946.5 is 0.50014.., of 946 it is 0.49987..: row 0 of 7 goes by 1, twice.
    private static void halfOfAnOddAngle() {
        Check.dueMoved(3, 7, Check.place(0, 0), 1893, true, Check.place(2, 0));
        Check.dueMoved(3, 7, Check.place(2, 6), 1893, true, Check.place(0, 6));
        Check.dueMoved(3, 7, Check.place(0, 0), 1892, true, Check.place(0, 0));
        Check.dueMoved(3, 7, Check.place(2, 0), -1893, true, Check.place(0, 0));
        Check.dueMoved(3, 7, Check.place(2, 0), -1892, true, Check.place(2, 0));
    }

    // 3 wide: no column goes, as 1 * SINE is below 0.5. Row 0 of 24 goes to the right by 2, twice.
    private static void leavesAtTheRight() {
        Check.dueMoved(3, 24, Check.place(0, 0), 2000, true, Check.place(1, 0));
        Check.dueMoved(3, 24, Check.place(1, 0), 2000, true, Check.place(2, 0));
        Check.dueMoved(3, 24, Check.place(2, 0), 2000, true, Check.place(0, 0));
        Check.dueMoved(3, 24, Check.place(2, 23), -2000, true, Check.place(0, 23));
        // Row 8 of 24 goes by 1, twice.
        Check.dueMoved(3, 24, Check.place(2, 8), 2000, true, Check.place(1, 8));
    }

    private static void leavesAtTheLeft() {
        Check.dueMoved(3, 24, Check.place(0, 23), 2000, true, Check.place(2, 23));
        Check.dueMoved(3, 24, Check.place(1, 23), 2000, true, Check.place(0, 23));
        Check.dueMoved(3, 24, Check.place(2, 23), 2000, true, Check.place(1, 23));
        Check.dueMoved(3, 24, Check.place(0, 0), -2000, true, Check.place(2, 0));
        Check.dueMoved(3, 24, Check.place(0, 15), 2000, true, Check.place(1, 15));
    }

    // 5 high: no row goes, as 2 * SLOPE is below 0.5. Column 23 of 24 goes downward by 4, column 0 upward by 4.
    private static void leavesBelow() {
        Check.dueMoved(24, 5, Check.place(23, 0), 2000, true, Check.place(23, 4));
        Check.dueMoved(24, 5, Check.place(23, 1), 2000, true, Check.place(23, 0));
        Check.dueMoved(24, 5, Check.place(23, 4), 2000, true, Check.place(23, 3));
        Check.dueMoved(24, 5, Check.place(0, 4), -2000, true, Check.place(0, 3));
    }

    private static void leavesAbove() {
        Check.dueMoved(24, 5, Check.place(0, 4), 2000, true, Check.place(0, 0));
        Check.dueMoved(24, 5, Check.place(0, 3), 2000, true, Check.place(0, 4));
        Check.dueMoved(24, 5, Check.place(0, 0), 2000, true, Check.place(0, 1));
        Check.dueMoved(24, 5, Check.place(23, 0), -2000, true, Check.place(23, 1));
    }

    private static void farAround() {
        // By 4 in 3 rows, and by 2 twice in 1 or 2 columns.
        Check.dueMoved(24, 3, Check.place(23, 0), 2000, true, Check.place(23, 1));
        Check.dueMoved(24, 3, Check.place(0, 0), 2000, true, Check.place(0, 2));
        Check.dueMoved(24, 1, Check.place(23, 0), 2000, true, Check.place(23, 0));
        Check.dueMoved(24, 1, Check.place(0, 0), 2000, true, Check.place(0, 0));
        Check.dueMoved(24, 2, Check.place(23, 1), 2000, true, Check.place(23, 1));
        Check.dueMoved(24, 2, Check.place(21, 1), 2000, true, Check.place(21, 0));
        Check.dueMoved(1, 24, Check.place(0, 0), 2000, true, Check.place(0, 0));
        Check.dueMoved(1, 24, Check.place(0, 23), -2000, true, Check.place(0, 23));
        Check.dueMoved(2, 24, Check.place(1, 0), 2000, true, Check.place(1, 0));
        Check.dueTurned("#", 2000, true, "#");
        Check.dueTurned("#|.|#|#|.|.|#|.|.|.|.|.|#", 2000, true, "#|.|#|#|.|.|#|.|.|.|.|.|#");
        Check.dueTurned("#.##..#.....#", -2000, true, "#.##..#.....#");
    }

    private static void noneIsLost() {
        for (int size = 1; size <= 24; size++) {
            SkewFind x = Check.patterned(size, 25 - size);
            int on = x.told(2);
            Check.due("turn(2000, true), " + size + " wide", on, x.turn(2000, true));
            Check.due("turn(-1777, true), " + size + " wide", on, x.turn(-1777, true));
            Check.due("told(2), " + size + " wide", on, x.told(2));
        }
        Check.dueTurned(FULL, 2000, true, FULL);
        Check.dueTurned(FULL, -2000, true, FULL);
        Check.due("turn() of nothing", 0, new SkewFind(24, 24).turn(2000, true));
    }

    private static void offFromOutside() {
        Check.dueTurned(FULL, 2000, false, ".###.|#####|#####|#####|.###.");
        Check.dueTurned(FULL, -2000, false, ".###.|#####|#####|#####|.###.");
        Check.dueTurned(FULL, 0, false, FULL);
        Check.dueTurned("#", 2000, false, "#");
    }

    // At 2000 the corners come from (-1, 1), (3, -1), (1, 5) and (5, 3): what is at the other end does not come in.
    private static void eachSideOutside() {
        dueOff("left", 0, 0, 4, 1);
        dueOff("upper", 4, 0, 3, 4);
        dueOff("lower", 0, 4, 1, 0);
        dueOff("right", 4, 4, 0, 3);
    }

    private static void dueOff(String side, int x, int y, int otherX, int otherY) {
        SkewFind page = Check.drawn(FULL);
        page.turn(2000, false);
        Check.due("the corner from outside of the " + side + " side", false, page.at(x, y));
        SkewFind other = Check.dotted(5, 5, otherX, otherY);
        other.turn(2000, false);
        Check.due("the corner from the end other than the " + side + " one", false, other.at(x, y));
    }

    private static void someAreLost() {
        Check.due("turn() of a full 5 by 5", 21, Check.drawn(FULL).turn(2000, false));
        SkewFind low = new SkewFind(24, 2);
        low.put(0, 0, 24, true);
        low.put(0, 1, 24, true);
        Check.due("turn() of a full 24 by 2", 12, low.turn(2000, false));
        Check.due("told(2) then", 12, low.told(2));
        Check.due("turn() of what is lost", 0, Check.dotted(24, 2, 0, 0).turn(2000, false));
        Check.due("turn() of nothing", 0, new SkewFind(24, 24).turn(2000, false));
        // Two samples come from the same one, and so it may be more, too.
        Check.due("turn() of a level row", 5, Check.drawn("....|####|....|....").turn(2000, false));
    }

    private static SkewFind turnedSixteenTimes() {
        SkewFind x = Check.drawn(LEVEL);
        for (int i = 1; i <= 16; i++) {
            int angle = 100 * i - 750;
            Check.due("turn() number " + i, 9, Check.answerOf(() -> x.turn(angle, true)));
            Check.due("told(4)", i, x.told(4));
        }
        return x;
    }

    private static void sixteenTurns() {
        SkewFind x = turnedSixteenTimes();
        x.angle(100);
        x.crop(1);
        Class<?> noRoom = UnsupportedOperationException.class;
        Check.dueThrow("turn(100, true)", noRoom, x, () -> x.turn(100, true));
        Check.dueThrow("turn(0, true)", noRoom, x, () -> x.turn(0, true));
        Check.due("back()", 15, x.back());
        Check.due("turn() when 15 can go back", 9, Check.answerOf(() -> x.turn(-1234, true)));
        Check.dueThrow("turn() when 16 can go back again", noRoom, x, () -> x.turn(1, true));
        for (int left = 15; left >= 0; left--) {
            Check.due("back()", left, x.back());
        }
        Check.due("the picture after 16 turns back", LEVEL, Check.pictureOf(x));
        SkewFind empty = new SkewFind(1, 1);
        for (int i = 0; i < 16; i++) {
            empty.turn(0, true);
        }
        Check.dueThrow("turn() of nothing", noRoom, empty, () -> empty.turn(0, true));
    }

    private static void samplingHasRoom() {
        SkewFind x = turnedSixteenTimes();
        Check.due("turn(0, false) when 16 can go back", 9, Check.answerOf(() -> x.turn(0, false)));
        Check.due("told(4)", 0, x.told(4));
        Check.due("turn(100, true) after it", 9, Check.answerOf(() -> x.turn(100, true)));
        SkewFind y = new SkewFind(5, 5);
        for (int i = 0; i < 40; i++) {
            Check.due("many turns by sampling", 0, Check.answerOf(() -> y.turn(7, false)));
        }
    }

    // The same turns in another order make another picture.
    private static void latestFirst() {
        SkewFind x = Check.patterned(24, 17);
        String first = Check.pictureOf(x);
        x.turn(2000, true);
        String second = Check.pictureOf(x);
        x.turn(-777, true);
        String third = Check.pictureOf(x);
        x.turn(1300, true);
        x.back();
        Check.due("after the first back()", third, Check.pictureOf(x));
        x.back();
        Check.due("after the second back()", second, Check.pictureOf(x));
        x.turn(-1999, true);
        x.back();
        Check.due("after a turn more, and back()", second, Check.pictureOf(x));
        x.back();
        Check.due("after the last back()", first, Check.pictureOf(x));
    }

    private static void comesBackExactly() {
        for (int size = 1; size <= 24; size++) {
            for (int angle = -2000; angle <= 2000; angle += 125) {
                SkewFind x = Check.patterned(size, 1 + (size * 7 + angle + 2000) % 24);
                String before = Check.pictureOf(x);
                x.turn(angle, true);
                Check.due("back()", 0, x.back());
                Check.due("the picture " + size + " wide turned by " + angle + " and back",
                    before, Check.pictureOf(x));
            }
        }
    }

    private static void samplingForgets() {
        SkewFind x = Check.drawn(LEVEL);
        x.turn(2000, true);
        x.turn(0, false);
        Check.due("told(4) after a turn by sampling", 0, x.told(4));
        String then = Check.pictureOf(x);
        Check.due("back() after a turn by sampling", -1, x.back());
        x.turn(700, true);
        Check.due("told(4) after one exact turn more", 1, x.told(4));
        Check.due("back() of it", 0, x.back());
        Check.due("back() further than the turn by sampling", -1, x.back());
        Check.due("the picture", then, Check.pictureOf(x));
    }

    private static void clearForgets() {
        SkewFind x = Check.drawn(LEVEL);
        x.turn(2000, true);
        x.turn(-300, true);
        x.clear();
        x.put(0, 4, 9, true);
        Check.due("told(4) after clear()", 0, x.told(4));
        Check.due("back() after clear()", -1, x.back());
        x.turn(2000, true);
        Check.due("back() of a turn after clear()", 0, x.back());
        Check.due("back() further than clear()", -1, x.back());
        Check.due("the picture", LEVEL, Check.pictureOf(x));
    }

    private static void othersKeep() {
        SkewFind x = Check.drawn(LEVEL);
        x.turn(2000, true);
        x.put(0, 0, 9, true);
        x.put(0, 0, 9, false);
        for (int side = 0; side < 4; side++) {
            x.crop(side);
        }
        x.angle(2000);
        x.sum(5);
        x.line(0, 3.0);
        Check.answerOf(() -> x.turn(2001, false));
        Check.due("told(4)", 1, x.told(4));
        Check.due("back()", 0, x.back());
        Check.due("the picture", LEVEL, Check.pictureOf(x));
        // All that was on is off, and the turn can still go back.
        x.turn(2000, true);
        for (int row = 0; row < 9; row++) {
            x.put(0, row, 9, false);
        }
        Check.due("told(4) of an empty picture", 1, x.told(4));
        Check.due("back() of an empty picture", 0, x.back());
    }

    private static void howManyAreLeft() {
        SkewFind x = new SkewFind(4, 4);
        for (int i = 0; i < 16; i++) {
            x.turn(i, true);
        }
        for (int left = 15; left >= 0; left--) {
            Check.due("back()", left, x.back());
            Check.due("told(4)", left, x.told(4));
        }
    }

    private static void dueNoBack(String name, SkewFind x) {
        String before = Check.stateOf(x);
        Check.due("back() " + name, -1, x.back());
        Check.due("back() again " + name, -1, x.back());
        Check.due("the state " + name, before, Check.stateOf(x));
    }

    private static void noneWasThere() {
        dueNoBack("of a new object", new SkewFind(5, 5));
        SkewFind x = Check.drawn("....|.#..|....");
        x.crop(0);
        x.angle(100);
        dueNoBack("before any turn", x);
        x.turn(100, true);
        x.back();
        x.crop(2);
        x.angle(200);
        dueNoBack("after the only one", x);
        x.turn(100, false);
        dueNoBack("after a turn by sampling", x);
        x.turn(100, true);
        x.clear();
        dueNoBack("after clear()", x);
    }
}
