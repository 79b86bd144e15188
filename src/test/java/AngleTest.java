/** Promises 5, 6 and 7. */
final class AngleTest {
    public static void main(String[] args) {
        halvedSteps();
        eachStepCounts();
        meanOfTheGrid();
        Check.end();
    }

    // On one line from 287 to 853 (see SumTest), or from -853 to -287.
    private static void halvedSteps() {
        SkewFind down = Check.dotted(24, 24, 0, 0, 10, 1);
        Check.due("down angle(2000)", 287, down.angle(2000));
        Check.due("down sure()", true, down.sure());
        Check.due("down angle(387)", 287, down.angle(387));
        Check.due("down angle(300)", 287, down.angle(300));
        SkewFind up = Check.dotted(24, 24, 0, 1, 10, 0);
        Check.due("up angle(2000)", -853, up.angle(2000));
        // Four lines of four ends each, from 866 on.
        SkewFind text = stairs();
        Check.due("text angle(2000)", 866, text.angle(2000));
        Check.due("text mean()", 1.5853658536585367, text.mean());
        Check.due("text angle(300)", 125, text.angle(300));
    }

    // On one line from 287 on. From the grid's angle a the steps go down by 50, 25, 12, 6, 3 and 1 as far as they may,
    // so that they end above 287 if a - 287 is no sum of them.
    private static void eachStepCounts() {
        SkewFind down = Check.dotted(24, 24, 0, 0, 10, 1);
        int[] bounds = {401, 402, 389, 388, 400, 416, 412, 363, 364, 313};
        int[] grid = {299, 298, 311, 312, 300, 384, 288, 337, 336, 287};
        int[] want = {287, 288, 289, 287, 287, 287, 287, 287, 289, 287};
        for (int i = 0; i < bounds.length; i++) {
            Check.due("angle(" + bounds[i] + ") by " + grid[i], want[i], down.angle(bounds[i]));
        }
    }

    private static SkewFind stairs() {
        SkewFind x = new SkewFind(24, 24);
        for (int step = 0; step < 4; step++) {
            for (int row = 0; row < 24; row += 6) {
                x.put(6 * step, row + step, 6, true);
            }
        }
        return x;
    }

    private static void meanOfTheGrid() {
        SkewFind x = stairs();
        x.angle(225);
        double five = 0.0;
        for (int angle = -225; angle <= 225; angle += 100) {
            five = five + x.sum(angle);
        }
        Check.due("mean() of five sums", five / 5.0, x.mean());
    }
}
