/** Promise 4. */
final class SumTest {
    public static void main(String[] args) {
        levelSums();
        slopedSums();
        termsOfSlope();
        sumChangesNothing();
        Check.end();
    }

    private static void levelSums() {
        Check.due("3 ends and 1", 2.5, Check.drawn("#.#.##|.##...").sum(0));
        Check.due("one end a row", 1.0, Check.drawn("..#|...|###").sum(0));
        Check.due("two ends a row", 2.0, Check.drawn("#.#|#.#|#.#").sum(0));
        Check.due("3, 2 and 1", 14.0 / 6.0, Check.drawn("#.#.#|#.#..|#....").sum(0));
    }

    // Ends at (0, 0) and (10, 1): on one line where 10 * SLOPE is above 0.5 (286.2) and not above 1.5 (853.1).
    private static void slopedSums() {
        SkewFind down = Check.dotted(24, 24, 0, 0, 10, 1);
        dueSums("down", down, 1, new int[] {0, 100, 286, 854, 2000, -300, -2000}, 1.0);
        dueSums("down", down, 1, new int[] {287, 288, 573, 853}, 2.0);
        SkewFind up = Check.dotted(24, 24, 0, 1, 10, 0);
        dueSums("up", up, -1, new int[] {0, 100, 286, 854, 2000, -300, -2000}, 1.0);
        dueSums("up", up, -1, new int[] {287, 288, 573, 853}, 2.0);
        // At 2000 SLOPE is 0.36396.., so that column 23 is 8 lines off.
        Check.due("corner", 2.0, Check.dotted(24, 24, 23, 23, 0, 15).sum(2000));
        Check.due("corner", 2.0, Check.dotted(24, 24, 23, 0, 0, 8).sum(-2000));
        Check.due("corner", 1.0, Check.dotted(24, 24, 23, 0, 0, 8).sum(2000));
    }

    private static void dueSums(String name, SkewFind x, int sign, int[] angles, double want) {
        for (int angle : angles) {
            Check.due(name + " sum(" + sign * angle + ")", want, x.sum(sign * angle));
        }
    }

    // 18 * SLOPE of 1988 is 6.5087; without its third term it would be 6.4968, and so on another line.
    private static void termsOfSlope() {
        SkewFind x = Check.dotted(24, 24, 18, 7, 0, 0);
        Check.due("sum(1988)", 2.0, x.sum(1988));
        Check.due("sum(1985)", 1.0, x.sum(1985));
        // 16 * SLOPE of 179 is 0.500024; without its second term it would be 0.49986.
        SkewFind y = Check.dotted(24, 24, 16, 1, 0, 0);
        Check.due("sum(179)", 2.0, y.sum(179));
        Check.due("sum(178)", 1.0, y.sum(178));
    }

    private static void sumChangesNothing() {
        SkewFind x = Check.drawn("...|.#.|#..");
        x.crop(1);
        x.angle(100);
        String before = Check.stateOf(x);
        x.sum(1234);
        Check.due("the state after sum()", before, Check.stateOf(x));
    }
}
