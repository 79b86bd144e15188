/** Promises 12, 13, 14 and 15. */
final class BandTest {
    public static void main(String[] args) {
        countsOfBands();
        bandsTold();
        bandsThrow();
        levelLines();
        slopedLines();
        lowestSamplesCount();
        linesThrow();
        upsideOrNot();
        Check.end();
    }

    private static void countsOfBands() {
        Check.due("nothing on", 0, new SkewFind(4, 4).bands());
        Check.due("all on", 1, Check.drawn("##|##|##").bands());
        Check.due("the first and the last row", 2, Check.drawn("#.|..|.#").bands());
        Check.due("rows that touch", 1, Check.drawn("...|#..|..#|...").bands());
        SkewFind x = new SkewFind(24, 24);
        for (int row = 0; row < 24; row += 2) {
            x.put(row, row, 1, true);
        }
        Check.due("every other row", 12, x.bands());
        Check.due("its last band's row", 22, x.band(11, 0));
    }

    private static void bandsTold() {
        SkewFind x = Check.drawn("....|##.#|..#.|....|....|####");
        int[][] want = {{1, 2, 4}, {5, 1, 4}};
        for (int k = 0; k < 2; k++) {
            for (int what = 0; what < 3; what++) {
                Check.due("band(" + k + ", " + what + ")", want[k][what], x.band(k, what));
            }
            for (int what : new int[] {-1, 3, Integer.MIN_VALUE, Integer.MAX_VALUE}) {
                Check.due("band(" + k + ", " + what + ")", -1, x.band(k, what));
            }
        }
    }

    private static void bandsThrow() {
        SkewFind x = Check.drawn("#|.|#");
        SkewFind empty = new SkewFind(3, 3);
        Class<?> outside = IndexOutOfBoundsException.class;
        for (int k : new int[] {-1, 2, 3, Integer.MIN_VALUE, Integer.MAX_VALUE}) {
            Check.dueThrow("band(" + k + ", 0)", outside, x, () -> x.band(k, 0));
            Check.dueThrow("band(" + k + ", 7)", outside, x, () -> x.band(k, 7));
            Check.dueThrow("line(" + k + ", 0.0)", outside, x, () -> x.line(k, 0.0));
            Check.dueThrow("line(" + k + ", 9999.0)", outside, x, () -> x.line(k, 9999.0));
        }
        Check.dueThrow("band(0, 0), nothing on", outside, empty, () -> empty.band(0, 0));
        Check.dueThrow("line(0, 0.0), nothing on", outside, empty, () -> empty.line(0, 0.0));
    }

    private static void levelLines() {
        // One column: the determinant is 0, and its lowest sample is the value everywhere.
        SkewFind x = Check.drawn("......|.....#|.....#|.....#|......");
        for (double v : new double[] {-1000.0, 0.0, 5.0, 1000.0}) {
            Check.due("one column at " + v, 48, x.line(0, v));
        }
        SkewFind level = Check.drawn(".....|#.###");
        Check.due("a level row", 16, level.line(0, 1000.0));
        Check.due("a level row", 16, level.line(0, -1000.0));
    }

    private static void slopedLines() {
        // y = x: the value is v itself.
        SkewFind x = Check.drawn("#.|.#");
        Check.due("at 1000", 16000, x.line(0, 1000.0));
        Check.due("at -1000", -16000, x.line(0, -1000.0));
        Check.due("at 0.5 / 16", 1, x.line(0, 0.03125));
        Check.due("at -0.5 / 16", 0, x.line(0, -0.03125));
        Check.due("at just below -0.5 / 16", -1, x.line(0, -0.0313));
        Check.due("at -0.0", 0, x.line(0, -0.0));
        // Points (0, 2), (1, 2), (2, 2), (3, 1): g = -0.3, the value at 0 is 2.2.
        SkewFind bent = Check.drawn("....|...#|###.");
        Check.due("bent at 0", 35, bent.line(0, 0.0));
        Check.due("bent at 3", 21, bent.line(0, 3.0));
        Check.due("bent at -10", 83, bent.line(0, -10.0));
        // The steepest one: 23 rows down in one column.
        SkewFind steep = new SkewFind(24, 24);
        for (int row = 0; row < 23; row++) {
            steep.put(0, row, 1, true);
        }
        steep.put(1, 23, 1, true);
        Check.due("steep", 16 * 22 + 16 * 1000, steep.line(0, 1000.0));
        SkewFind two = Check.drawn("##|.#|.#|.#");
        Check.due("3 rows a column", 16 * 3 * 1000, two.line(0, 1000.0));
        Check.due("3 rows a column", -16 * 3 * 1000, two.line(0, -1000.0));
    }

    private static void lowestSamplesCount() {
        // The second band alone: (0, 4), (2, 4); what is above in the columns does not count.
        SkewFind x = Check.drawn("###|...|#.#|..#|#.#");
        Check.due("the first band", 0, x.line(0, 1.0));
        Check.due("the second band", 64, x.line(1, 1.0));
        Check.due("the second band", 64, x.line(1, -500.0));
    }

    private static void linesThrow() {
        SkewFind x = Check.drawn("#.|.#");
        x.angle(100);
        x.turn(0, true);
        Class<?> wrong = IllegalArgumentException.class;
        double[] values = {1000.0000001, -1000.0000001, 1e300, -1e300, Double.NaN,
            Double.POSITIVE_INFINITY, Double.NEGATIVE_INFINITY};
        for (double v : values) {
            Check.dueThrow("line(0, " + v + ")", wrong, x, () -> x.line(0, v));
            Check.dueThrow("line(1, " + v + ")", IndexOutOfBoundsException.class, x, () -> x.line(1, v));
        }
    }

    private static void upsideOrNot() {
        Check.due("nothing on", false, new SkewFind(3, 3).upside());
        Check.due("one row", false, Check.drawn("###").upside());
        Check.due("more below", true, Check.drawn("#..|##.").upside());
        Check.due("more above", false, Check.drawn("##.|#..").upside());
        Check.due("as much", false, Check.drawn("##.|.##").upside());
        Check.due("a middle row", false, Check.drawn("##.|###|##.").upside());
        Check.due("more in the middle and below", true, Check.drawn("#..|###|##.").upside());
        Check.due("more in the middle and above", false, Check.drawn("##.|###|#..").upside());
        Check.due("four rows", true, Check.drawn("#..|#..|##.|#..").upside());
        Check.due("the lower half of the picture alone", false, Check.drawn("...|...|...|##.|#..").upside());
        Check.due("two bands, 1 more below and 2 more above", false, Check.drawn("#..|##.|...|###|#..").upside());
        Check.due("two bands, 2 more below and 1 more above", true, Check.drawn("#..|###|...|##.|#..").upside());
        Check.due("two bands that are even", false, Check.drawn("#..|##.|...|##.|#..").upside());
    }
}
