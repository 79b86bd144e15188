/** The edges of promises 12, 13, 14 and 15: each sentence of the document that names one has its own checks. */
final class BandEdgesTest {
    private static final int LEAST = Integer.MIN_VALUE;
    private static final int MOST = Integer.MAX_VALUE;
    private static final Class<?> OUTSIDE = IndexOutOfBoundsException.class;
    private static final Class<?> WRONG = IllegalArgumentException.class;

    public static void main(String[] args) {
        Check.sentence("Promise 12", "How many BANDS there are (none)", BandEdgesTest::noBands);
        Check.sentence("Promise 12", "rows one behind the other, as many as may be", BandEdgesTest::asManyAsMayBe);
        Check.sentence("Promise 12", "each of which has something on", BandEdgesTest::eachHasSomething);
        Check.sentence("Promise 12", "as many as may be (up to the first and the last row)", BandEdgesTest::outerRows);
        Check.sentence("Promise 13", "there is no such .. band", BandEdgesTest::noBandToTell);
        Check.sentence("Promise 13", "NONE for another what", BandEdgesTest::anotherWhat);
        Check.sentence("Promise 13", "how many rows it has (1), how many samples on (2) (least and most)",
            BandEdgesTest::leastAndMost);
        Check.sentence("Promise 14", "there is no such .. band", BandEdgesTest::noBandToFit);
        Check.sentence("Promise 14", "v is not -1000.0 .. 1000.0", BandEdgesTest::outermostV);
        Check.sentence("Promise 14", "if d is 0, it has the value Y / n (as doubles) everywhere",
            BandEdgesTest::oneColumn);
        Check.sentence("Promise 14", "else at v the value g * v + (Y - g * X) / n", BandEdgesTest::twoColumns);
        Check.sentence("Promise 14", "the columns that have something on in the band", BandEdgesTest::inTheBand);
        Check.sentence("Promise 14", "with the greatest such y", BandEdgesTest::greatestY);
        Check.sentence("Promise 14", "the greatest whole number not above v + 0.5 (just a half)",
            BandEdgesTest::halves);
        Check.sentence("Promise 15", "more is on in rows of the lower half than of the upper one (as much)",
            BandEdgesTest::asMuch);
        Check.sentence("Promise 15", "more is on in rows of the lower half than of the upper one (one more)",
            BandEdgesTest::oneMore);
        Check.sentence("Promise 15", "its middle row is in neither", BandEdgesTest::middleRows);
        Check.sentence("Promise 15", "its middle row is in neither (there is none)", BandEdgesTest::noMiddleRow);
        Check.sentence("Promise 15", "of each band its own halves", BandEdgesTest::ownHalves);
        Check.sentence("Promise 15", "of all BANDS together", BandEdgesTest::allTogether);
        Check.sentence("Promise 15", "Whether .. more is on (nothing is on)", BandEdgesTest::nothingOn);
        Check.end();
    }

    private static SkewFind everyOtherRow(int first) {
        SkewFind x = new SkewFind(24, 24);
        for (int row = first; row < 24; row += 2) {
            x.put(row, row, 1, true);
        }
        return x;
    }

    private static void noBands() {
        Check.due("nothing on", 0, new SkewFind(24, 24).bands());
        Check.due("1 by 1", 0, new SkewFind(1, 1).bands());
        SkewFind x = Check.drawn("#|.|#");
        x.clear();
        Check.due("after clear()", 0, x.bands());
        Check.due("every other row", 12, everyOtherRow(0).bands());
        Check.due("every other row, from 1 on", 12, everyOtherRow(1).bands());
    }

    private static void asManyAsMayBe() {
        Check.due("rows that have no column in common", 1, Check.drawn("...|#..|..#|.#.|...").bands());
        Check.due("rows of the band", 3, Check.drawn("...|#..|..#|.#.|...").band(0, 1));
        Check.due("all on", 1, Check.drawn("##|##|##").bands());
        Check.due("all rows of it", 3, Check.drawn("##|##|##").band(0, 1));
    }

    private static void eachHasSomething() {
        SkewFind x = Check.drawn("#.#|...|#.#");
        Check.due("one row between", 2, x.bands());
        x.put(1, 1, 1, true);
        Check.due("that row with one sample", 1, x.bands());
        x.put(1, 1, 1, false);
        Check.due("that row with none again", 2, x.bands());
        x.put(0, 0, 3, false);
        Check.due("one band left", 1, x.bands());
        Check.due("its first row", 2, x.band(0, 0));
    }

    private static void outerRows() {
        SkewFind x = Check.drawn("#.|..|.#");
        Check.due("bands()", 2, x.bands());
        Check.due("band(0, 0)", 0, x.band(0, 0));
        Check.due("band(1, 0)", 2, x.band(1, 0));
        SkewFind full = new SkewFind(1, 24);
        for (int row = 0; row < 24; row++) {
            full.put(0, row, 1, true);
        }
        Check.due("24 rows", 24, full.band(0, 1));
        SkewFind low = new SkewFind(24, 1);
        low.put(23, 0, 1, true);
        Check.due("one row", 1, low.band(0, 1));
        SkewFind sides = Check.drawn("#.|#.|..|.#|.#");
        Check.due("the rows of the last band", 2, sides.band(1, 1));
        Check.due("the last of 12 bands", 23, everyOtherRow(1).band(11, 0));
    }

    private static void noBandToTell() {
        SkewFind x = Check.drawn("#|.|#");
        for (int k : new int[] {-1, 2, 3, 24, LEAST, MOST}) {
            for (int what = 0; what < 3; what++) {
                int asked = what;
                Check.dueThrow("band(" + k + ", " + what + ")", OUTSIDE, x, () -> x.band(k, asked));
            }
        }
        Check.due("band(0, 0)", 0, Check.answerOf(() -> x.band(0, 0)));
        Check.due("band(1, 0)", 2, Check.answerOf(() -> x.band(1, 0)));
        SkewFind empty = new SkewFind(3, 3);
        Check.dueThrow("band(0, 0) of nothing", OUTSIDE, empty, () -> empty.band(0, 0));
        SkewFind twelve = everyOtherRow(0);
        Check.dueThrow("band(12, 0)", OUTSIDE, twelve, () -> twelve.band(12, 0));
    }

    private static void anotherWhat() {
        SkewFind x = Check.drawn("#|.|#");
        for (int what : new int[] {-1, -2, 3, 4, 100, LEAST, MOST}) {
            Check.due("band(0, " + what + ")", -1, Check.answerOf(() -> x.band(0, what)));
            Check.due("band(1, " + what + ")", -1, Check.answerOf(() -> x.band(1, what)));
        }
    }

    private static void leastAndMost() {
        SkewFind x = Check.drawn("...|.#.|...");
        Check.due("the rows of one sample", 1, x.band(0, 1));
        Check.due("the samples of one sample", 1, x.band(0, 2));
        SkewFind full = new SkewFind(24, 24);
        for (int row = 0; row < 24; row++) {
            full.put(0, row, 24, true);
        }
        Check.due("all rows", 24, full.band(0, 1));
        Check.due("all samples", 576, full.band(0, 2));
        full.put(0, 12, 24, false);
        Check.due("the samples above a gap", 288, full.band(0, 2));
        Check.due("the samples below a gap", 264, full.band(1, 2));
    }

    private static void noBandToFit() {
        SkewFind x = Check.drawn("#|.|#");
        for (int k : new int[] {-1, 2, 3, 24, LEAST, MOST}) {
            Check.dueThrow("line(" + k + ", 0.0)", OUTSIDE, x, () -> x.line(k, 0.0));
        }
        Check.due("line(0, 0.0)", 0, Check.answerOf(() -> x.line(0, 0.0)));
        Check.due("line(1, 0.0)", 32, Check.answerOf(() -> x.line(1, 0.0)));
        SkewFind empty = new SkewFind(3, 3);
        Check.dueThrow("line(0, 0.0) of nothing", OUTSIDE, empty, () -> empty.line(0, 0.0));
    }

    private static void outermostV() {
        SkewFind x = Check.drawn("#.|.#");
        Check.due("line(0, 1000.0)", 16000, Check.answerOf(() -> x.line(0, 1000.0)));
        Check.due("line(0, -1000.0)", -16000, Check.answerOf(() -> x.line(0, -1000.0)));
        Check.due("line(0, 999.9)", 15998, Check.answerOf(() -> x.line(0, 999.9)));
        Check.due("line(0, -0.0)", 0, Check.answerOf(() -> x.line(0, -0.0)));
        double[] values = {Math.nextUp(1000.0), Math.nextDown(-1000.0), 1001.0, -1001.0, 1e300, -1e300,
            Double.MAX_VALUE, Double.POSITIVE_INFINITY, Double.NEGATIVE_INFINITY, Double.NaN};
        SkewFind one = Check.drawn("#");
        for (double v : values) {
            Check.dueThrow("line(0, " + v + ")", WRONG, x, () -> x.line(0, v));
            Check.dueThrow("line(0, " + v + ") of one column", WRONG, one, () -> one.line(0, v));
        }
    }

    private static final double[] EVERYWHERE = {-1000.0, -0.5, -0.0, 0.0, 0.03125, 5.0, 23.0, 1000.0};

    private static void oneColumn() {
        for (double v : EVERYWHERE) {
            Check.due("1 by 1 at " + v, 0, Check.drawn("#").line(0, v));
            Check.due("column 0 at " + v, 48, Check.drawn("..|#.|#.|#.|..").line(0, v));
            Check.due("the last column at " + v, 16, Check.drawn("...|..#|...").line(0, v));
            Check.due("the last of 24 at " + v, 16 * 23, Check.dotted(24, 24, 23, 23).line(0, v));
            Check.due("a band of one column below one of two at " + v, 32, Check.drawn("##|..|.#").line(1, v));
        }
    }

    // Points (3, 1), (4, 0): y = 4 - x. Points (0, 23), (1, 22): the steepest line that goes up.
    private static void twoColumns() {
        SkewFind up = Check.drawn("....#|...#.");
        Check.due("up at 0", 64, up.line(0, 0.0));
        Check.due("up at 4", 0, up.line(0, 4.0));
        Check.due("up at 1000", -16 * 996, up.line(0, 1000.0));
        SkewFind level = Check.drawn(".....|#...#");
        for (double v : EVERYWHERE) {
            Check.due("a level row at " + v, 16, level.line(0, v));
        }
        SkewFind steep = new SkewFind(2, 24);
        steep.put(0, 0, 1, true);
        for (int row = 0; row < 24; row++) {
            steep.put(1, row, 1, true);
        }
        Check.due("23 rows a column at 1000", 16 * 23000, steep.line(0, 1000.0));
        Check.due("23 rows a column at -1000", -16 * 23000, steep.line(0, -1000.0));
        SkewFind wide = new SkewFind(24, 1);
        wide.put(0, 0, 24, true);
        Check.due("24 columns of one row", 0, wide.line(0, 1000.0));
    }

    private static void inTheBand() {
        // What is on in these columns above and below the band does not count, nor do the columns without any.
        SkewFind x = Check.drawn("#####|.....|.#.#.|.....|..###");
        for (double v : EVERYWHERE) {
            Check.due("the first band at " + v, 0, x.line(0, v));
            Check.due("the band between at " + v, 32, x.line(1, v));
            Check.due("the last band at " + v, 64, x.line(2, v));
        }
        // Points (0, 0), (4, 1): the columns between are no points.
        Check.due("a gap of three columns, at 2", 8, Check.drawn("#....|....#").line(0, 2.0));
        // Points (0, 1), (3, 1), (4, 0).
        Check.due("a gap of two columns, at 0", 18, Check.drawn("....#|#..#.").line(0, 0.0));
    }

    private static void greatestY() {
        for (double v : EVERYWHERE) {
            Check.due("the lowest ones at " + v, 48, Check.drawn("##.|.##|###|###").line(0, v));
            Check.due("one above with a gap at " + v, 48, Check.drawn("##|#.|#.|##").line(0, v));
        }
        Check.due("one of two is lower", 16, Check.drawn("##|#.").line(0, 0.0));
        Check.due("one of two is lower", 0, Check.drawn("##|#.").line(0, 1.0));
    }

    // y = x: the value is v itself, and 16.0 * v is just a half.
    private static void halves() {
        SkewFind x = Check.drawn("#.|.#");
        Check.due("WHOLE of 0.5", 1, x.line(0, 0.5 / 16.0));
        Check.due("WHOLE of -0.5", 0, x.line(0, -0.5 / 16.0));
        Check.due("WHOLE of 1.5", 2, x.line(0, 1.5 / 16.0));
        Check.due("WHOLE of -1.5", -1, x.line(0, -1.5 / 16.0));
        Check.due("WHOLE of 2.5", 3, x.line(0, 2.5 / 16.0));
        Check.due("WHOLE of -2.5", -2, x.line(0, -2.5 / 16.0));
        Check.due("WHOLE of 0.4375", 0, x.line(0, 0.4375 / 16.0));
        Check.due("WHOLE of -0.5625", -1, x.line(0, -0.5625 / 16.0));
        Check.due("WHOLE of -1.0", -1, x.line(0, -1.0 / 16.0));
        // In doubles this and 0.5 make 1.0.
        Check.due("WHOLE of what is just below 0.5", 1, x.line(0, Math.nextDown(0.5) / 16.0));
    }

    private static void dueUpside(boolean want, String picture) {
        Check.due(picture + " upside()", want, Check.drawn(picture).upside());
    }

    private static void asMuch() {
        dueUpside(false, "#.|.#");
        dueUpside(false, "##|##");
        dueUpside(false, "##.|#..|#..|##.");
        dueUpside(false, "#..|##.|...|##.|#..");
        dueUpside(false, "###|###|###|###|###");
    }

    private static void oneMore() {
        dueUpside(true, "#.|##");
        dueUpside(false, "##|#.");
        dueUpside(true, "##.|#..|##.|##.");
        dueUpside(false, "##.|##.|#..|##.");
        SkewFind x = new SkewFind(24, 24);
        for (int row = 0; row < 24; row++) {
            x.put(0, row, 24, true);
        }
        Check.due("upside() of all", false, x.upside());
        x.put(0, 11, 1, false);
        Check.due("upside() with one less above", true, x.upside());
        x.put(0, 12, 2, false);
        Check.due("upside() with two less below", false, x.upside());
    }

    private static void middleRows() {
        dueUpside(false, "###");
        dueUpside(false, "#|.|#");
        dueUpside(false, "#..|###|#..");
        dueUpside(true, "#..|###|##.");
        dueUpside(false, "##.|###|#..");
        dueUpside(false, "##.|#..|###|#..|##.");
        dueUpside(true, "##.|#..|#..|##.|##.");
        dueUpside(false, "#..|.#.|#..|...|.#.");
        // A band of one row has no halves, whatever stands in it.
        dueUpside(true, "#..|##.|...|###");
        dueUpside(false, "##.|#..|...|###");
    }

    private static void noMiddleRow() {
        dueUpside(true, "#..|###");
        dueUpside(false, "###|#..");
        dueUpside(true, "#..|#..|##.|#..");
        dueUpside(false, "#..|##.|#..|#..");
        dueUpside(true, "#..|#..|#..|##.|#..|#..");
        dueUpside(false, "#..|#..|##.|#..|#..|#..");
    }

    private static void ownHalves() {
        // Both bands lie in one half of the picture.
        dueUpside(false, "...|...|...|...|##.|#..");
        dueUpside(true, "#..|##.|...|...|...|...");
        // Each band alone is as much above as below.
        dueUpside(false, "#..|#..|...|###|###");
        dueUpside(false, "#..|...|###");
        dueUpside(true, "###|###|...|#..|##.");
    }

    private static void allTogether() {
        dueUpside(false, "#..|##.|...|###|#..");
        dueUpside(true, "#..|###|...|##.|#..");
        dueUpside(true, "##.|#..|...|#..|###");
        dueUpside(false, "###|#..|...|#..|##.");
        // Two bands have 1 more below each, and a third one has 2 more above.
        dueUpside(false, "#...|##..|....|#...|##..|....|###.|#...");
        dueUpside(false, "#...|##..|....|#...|##..|....|####|#...");
        dueUpside(true, "#...|##..|....|#...|###.|....|###.|#...");
    }

    private static void nothingOn() {
        Check.due("upside() of nothing", false, new SkewFind(24, 24).upside());
        Check.due("upside() of 1 by 1", false, new SkewFind(1, 1).upside());
        SkewFind x = Check.drawn("#.|##");
        x.clear();
        Check.due("upside() after clear()", false, x.upside());
    }
}
