/** Promises 12, 13, 14 and 15. */
final class BandTest {
    public static void main(String[] args) {
        countsOfBands();
        bandsTold();
        slopedLines();
        upsideOrNot();
        Check.end();
    }

    private static void countsOfBands() {
        Check.due("one band", 1, Check.drawn("...|#..|.##|...").bands());
        Check.due("three bands", 3, Check.drawn("##.|...|#..|.##|...|...|##.").bands());
    }

    private static void bandsTold() {
        SkewFind x = Check.drawn("....|##.#|..#.|....|....|####");
        int[][] want = {{1, 2, 4}, {5, 1, 4}};
        for (int k = 0; k < 2; k++) {
            for (int what = 0; what < 3; what++) {
                Check.due("band(" + k + ", " + what + ")", want[k][what], x.band(k, what));
            }
        }
    }

    private static void slopedLines() {
        // Points (0, 2), (1, 2), (2, 2), (3, 1): g = -0.3, the value at 0 is 2.2.
        SkewFind bent = Check.drawn("....|...#|###.");
        Check.due("bent at 0", 35, bent.line(0, 0.0));
        Check.due("bent at 3", 21, bent.line(0, 3.0));
        Check.due("bent at -10", 83, bent.line(0, -10.0));
        // The steepest one: 23 rows down in one column.
        SkewFind steep = new SkewFind(24, 24);
        for (int row = 0; row < 23; row++) {
            steep.put(0, row, 1, true);
        }
        steep.put(1, 23, 1, true);
        Check.due("steep", 16 * 22 + 16 * 1000, steep.line(0, 1000.0));
        SkewFind two = Check.drawn("##|.#|.#|.#");
        Check.due("3 rows a column", 16 * 3 * 1000, two.line(0, 1000.0));
        Check.due("3 rows a column", -16 * 3 * 1000, two.line(0, -1000.0));
    }

    private static void upsideOrNot() {
        Check.due("more below", true, Check.drawn("#..|##.").upside());
        Check.due("more above", false, Check.drawn("##.|#..").upside());
        Check.due("more in the middle and below", true, Check.drawn("#..|###|##.").upside());
        Check.due("more in the middle and above", false, Check.drawn("##.|###|#..").upside());
        Check.due("four rows", true, Check.drawn("#..|#..|##.|#..").upside());
        Check.due("two bands, 1 more below and 2 more above", false, Check.drawn("#..|##.|...|###|#..").upside());
        Check.due("two bands, 2 more below and 1 more above", true, Check.drawn("#..|###|...|##.|#..").upside());
    }
}
