/** The edges of promise 4: each sentence of the document that names one has its own checks. */
final class SumEdgesTest {
    public static void main(String[] args) {
        Check.sentence("Promise 4", "0.0 if there is none", SumEdgesTest::noRunEnds);
        Check.sentence("Promise 4", "SUM of an angle, -2000 .. 2000", SumEdgesTest::widestAngles);
        Check.sentence("Promise 4", "another number is none that is told", SumEdgesTest::widerAngles);
        Check.sentence("Promise 4", "whose right neighbour is not", SumEdgesTest::insideOfARun);
        Check.sentence("Promise 4", "or is not there", SumEdgesTest::atTheLastColumn);
        Check.sentence("Promise 4", "the greatest whole number not above v + 0.5 (above 0)", SumEdgesTest::wholeAbove);
        Check.sentence("Promise 4", "the greatest whole number not above v + 0.5 (below 0)", SumEdgesTest::wholeBelow);
        Check.sentence("Promise 4", "on the line WHOLE(y - x * SLOPE) (above and below the picture)",
            SumEdgesTest::linesOutside);
        Check.sentence("Promise 4", "for each line the square of how many RUN ENDS are on it", SumEdgesTest::mostEnds);
        Check.end();
    }

    private static final int[] ANGLES = {-2000, -1999, -100, -1, 0, 1, 100, 1999, 2000};

    private static void noRunEnds() {
        SkewFind x = new SkewFind(24, 24);
        for (int angle : ANGLES) {
            Check.due("sum(" + angle + ") of nothing", 0.0, x.sum(angle));
        }
        x.put(3, 3, 4, true);
        x.put(3, 3, 4, false);
        Check.due("sum(0) of what is off again", 0.0, x.sum(0));
        x.put(3, 3, 4, true);
        x.clear();
        Check.due("sum(0) after clear()", 0.0, x.sum(0));
        Check.due("sum(0) of 1 by 1", 0.0, new SkewFind(1, 1).sum(0));
        SkewFind lost = Check.dotted(2, 24, 0, 0);
        lost.turn(2000, false);
        Check.due("sum(0) of what a turn by sampling lost", 0.0, lost.sum(0));
    }

    // 18 * SLOPE is 6.5 at some 1986, 15 * SLOPE is 5.5 at some 2014.
    private static void widestAngles() {
        SkewFind down = Check.dotted(24, 24, 0, 0, 18, 7);
        Check.due("sum(2000)", 2.0, down.sum(2000));
        Check.due("sum(-2000)", 1.0, down.sum(-2000));
        SkewFind up = Check.dotted(24, 24, 0, 7, 18, 0);
        Check.due("sum(-2000)", 2.0, up.sum(-2000));
        Check.due("sum(2000)", 1.0, up.sum(2000));
        SkewFind beyond = Check.dotted(24, 24, 0, 0, 15, 6);
        Check.due("sum(2000) of a steeper line", 1.0, beyond.sum(2000));
    }

    private static void widerAngles() {
        SkewFind x = Check.dotted(24, 24, 0, 0, 18, 7);
        SkewFind empty = new SkewFind(24, 24);
        int[] angles = {2001, -2001, 2002, -2002, 2100, 18000, -18000, Integer.MAX_VALUE, Integer.MIN_VALUE};
        for (int angle : angles) {
            Check.dueThrow("sum(" + angle + ")", IllegalArgumentException.class, x, () -> x.sum(angle));
            Check.dueThrow("sum(" + angle + ") of nothing", IllegalArgumentException.class, empty,
                () -> empty.sum(angle));
        }
    }

    private static void insideOfARun() {
        Check.due("a run of 5 and one of 1", 2.0, Check.drawn("#####.#...").sum(0));
        Check.due("every other one", 5.0, Check.drawn("#.#.#.#.#.").sum(0));
        Check.due("runs of 2", 3.0, Check.drawn("##.##.##..").sum(0));
        Check.due("a run parted by a gap of 1", 2.0, Check.drawn("####.#####.").sum(0));
        // At 300 the run's end (10, 1) is on the line 0, its beginning (0, 1) on the line 1.
        SkewFind run = Check.dotted(24, 24, 0, 0);
        run.put(0, 1, 11, true);
        Check.due("the run's end is on the other end's line", 2.0, run.sum(300));
        Check.due("the run's beginning would be", 1.0, run.sum(0));
        SkewFind begin = Check.dotted(24, 24, 0, 1);
        begin.put(0, 0, 11, true);
        Check.due("the run's end is on another line", 1.0, begin.sum(300));
    }

    private static void atTheLastColumn() {
        Check.due("the last sample alone", 1.0, Check.drawn("....#").sum(0));
        Check.due("a run up to the last sample, and one before", 2.0, Check.drawn("#.###").sum(0));
        Check.due("one column", 1.0, Check.drawn("#|#|#").sum(0));
        SkewFind wide = new SkewFind(24, 2);
        wide.put(0, 0, 24, true);
        wide.put(0, 1, 22, true);
        wide.put(23, 1, 1, true);
        Check.due("the last of 24 columns", 5.0 / 3.0, wide.sum(0));
    }

    // 10 * SLOPE of 286 is 0.49958, of 287 it is 0.50133, of 853 1.49986, and of 854 1.50165.
    private static void wholeAbove() {
        SkewFind x = Check.dotted(24, 24, 0, 10, 10, 11);
        Check.due("10.50042 is on the line 11", 1.0, x.sum(286));
        Check.due("10.49867 is on the line 10", 2.0, x.sum(287));
        Check.due("9.50014 is on the line 10", 2.0, x.sum(853));
        Check.due("9.49835 is on the line 9", 1.0, x.sum(854));
    }

    private static void wholeBelow() {
        SkewFind x = Check.dotted(24, 24, 0, 0, 10, 0);
        Check.due("-0.49958 is on the line 0", 2.0, x.sum(286));
        Check.due("-0.50133 is on the line -1", 1.0, x.sum(287));
        // At 2000: 0, -0.73 and -1.46, thus on 0, -1 and -1.
        Check.due("0, -1 and -1", 5.0 / 3.0, Check.dotted(24, 24, 0, 0, 2, 0, 4, 0).sum(2000));
        Check.due("0 and -1", 1.0, Check.dotted(24, 24, 0, 0, 2, 0).sum(2000));
        // -8.37, -7.64 and -6.92, thus on -8, -8 and -7.
        Check.due("-8, -8 and -7", 5.0 / 3.0, Check.dotted(24, 24, 23, 0, 21, 0, 19, 0).sum(2000));
    }

    private static void linesOutside() {
        Check.due("two on -8", 2.0, Check.dotted(24, 24, 23, 0, 21, 0).sum(2000));
        Check.due("two on 31", 2.0, Check.dotted(24, 24, 23, 23, 21, 23).sum(-2000));
        // A line above the first row is not the first row, nor is one below the last row the last row.
        Check.due("-8 and 0", 1.0, Check.dotted(24, 24, 23, 0, 0, 0).sum(2000));
        Check.due("31 and 23", 1.0, Check.dotted(24, 24, 23, 23, 0, 23).sum(-2000));
        Check.due("-1 and 23", 1.0, Check.dotted(24, 24, 2, 0, 0, 23).sum(2000));
        Check.due("two of one row", 2.0, Check.dotted(24, 1, 23, 0, 21, 0).sum(2000));
        Check.due("two of one row", 2.0, Check.dotted(24, 1, 23, 0, 21, 0).sum(-2000));
    }

    private static void mostEnds() {
        SkewFind x = new SkewFind(24, 24);
        for (int row = 0; row < 24; row++) {
            for (int column = 0; column < 24; column += 2) {
                x.put(column, row, 1, true);
            }
        }
        Check.due("24 lines of 12 ends", 12.0, x.sum(0));
        Check.due("one end", 1.0, Check.drawn("#").sum(0));
        Check.due("one end at 2000", 1.0, Check.drawn("#").sum(2000));
    }
}
