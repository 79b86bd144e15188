/** Promises 5, 6 and 7. */
final class AngleTest {
    public static void main(String[] args) {
        nothingOn();
        leastOfEquals();
        halvedSteps();
        eachStepCounts();
        stepsKeepToTheBound();
        theGridEndsAtTheBound();
        sureAtTheLimit();
        meanOfTheGrid();
        anglesThrow();
        whatForgetsTheAngle();
        whatKeepsTheAngle();
        Check.end();
    }

    private static void nothingOn() {
        SkewFind x = new SkewFind(7, 5);
        Check.due("angle(500)", 100000, x.angle(500));
        Check.due("sure()", false, x.sure());
        Check.due("mean()", 0.0, x.mean());
        x.put(0, 0, 1, true);
        x.angle(500);
        x.put(0, 0, 1, false);
        Check.due("angle(0) after something was on", 100000, x.angle(0));
        Check.due("sure() after something was on", false, x.sure());
        Check.due("mean() after something was on", 0.0, x.mean());
    }

    private static void leastOfEquals() {
        for (int most : new int[] {0, 1, 49, 50, 99, 100, 150, 1999, 2000}) {
            SkewFind x = Check.drawn("...|.#.|...");
            Check.due("angle(" + most + ") of one sample", -most, x.angle(most));
            Check.due("mean() of one sample", 1.0, x.mean());
            Check.due("sure() of one sample", false, x.sure());
        }
    }

    // On one line from 287 to 853 (see SumTest), or from -853 to -287.
    private static void halvedSteps() {
        SkewFind down = Check.dotted(24, 24, 0, 0, 10, 1);
        Check.due("down angle(2000)", 287, down.angle(2000));
        Check.due("down sure()", true, down.sure());
        Check.due("down angle(387)", 287, down.angle(387));
        Check.due("down angle(300)", 287, down.angle(300));
        SkewFind up = Check.dotted(24, 24, 0, 1, 10, 0);
        Check.due("up angle(2000)", -853, up.angle(2000));
        // -600 is the bound: nothing below it may be tried.
        Check.due("up angle(600)", -600, up.angle(600));
        Check.due("up angle(299)", -299, up.angle(299));
        // The grid's -250 has 1.0; 50 more is no better, and what is below may not be tried.
        Check.due("up angle(250)", -250, up.angle(250));
        // Four lines of four ends each, from 866 on.
        SkewFind text = stairs();
        Check.due("text angle(2000)", 866, text.angle(2000));
        Check.due("text mean()", 1.5853658536585367, text.mean());
        Check.due("text angle(300)", 125, text.angle(300));
    }

    // On one line from 287 on. From the grid's angle a the steps go down by 50, 25, 12, 6, 3 and 1 as far as they may,
    // so that they end above 287 if a - 287 is no sum of them.
    private static void eachStepCounts() {
        SkewFind down = Check.dotted(24, 24, 0, 0, 10, 1);
        int[] bounds = {401, 402, 389, 388, 400, 416, 412, 363, 364, 313};
        int[] grid = {299, 298, 311, 312, 300, 384, 288, 337, 336, 287};
        int[] want = {287, 288, 289, 287, 287, 287, 287, 287, 289, 287};
        for (int i = 0; i < bounds.length; i++) {
            Check.due("angle(" + bounds[i] + ") by " + grid[i], want[i], down.angle(bounds[i]));
        }
    }

    // One pair is on one line from 125 on, the other one from 169 on.
    private static void stepsKeepToTheBound() {
        SkewFind pairs = Check.dotted(24, 24, 0, 0, 23, 1, 0, 10, 17, 11);
        // 125 is on the grid, and 50 more is the bound itself: from there 175, 169.
        Check.due("angle(175)", 169, pairs.angle(175));
        // 126 is on the grid, and 50 more is above the bound.
        Check.due("angle(174)", 125, pairs.angle(174));
    }

    private static SkewFind stairs() {
        SkewFind x = new SkewFind(24, 24);
        for (int step = 0; step < 4; step++) {
            for (int row = 0; row < 24; row += 6) {
                x.put(6 * step, row + step, 6, true);
            }
        }
        return x;
    }

    private static void theGridEndsAtTheBound() {
        SkewFind down = Check.dotted(24, 24, 0, 0, 10, 1);
        // -286, -186, .. 214: no try is on one line, and 286 is not on it either.
        Check.due("angle(286)", -286, down.angle(286));
        Check.due("mean() of 286", 1.0, down.mean());
        // -287, .. 213: the bound itself is not on the grid.
        Check.due("angle(287)", -287, down.angle(287));
        Check.due("mean() of 287", 1.0, down.mean());
        Check.due("sure() of 287", false, down.sure());
        // -300, .. 300: seven sums, of which the last is 2.0.
        down.angle(300);
        Check.due("mean() of 300", 8.0 / 7.0, down.mean());
        Check.due("sure() of 300", true, down.sure());
    }

    // At -125 the end in column 23 comes to the line below, which then has 4 ends (20 / 8); else 14 / 8.
    private static SkewFind nearLimit() {
        return Check.dotted(24, 24, 23, 4, 0, 5, 2, 5, 4, 5, 0, 10, 0, 13, 0, 16, 0, 19);
    }

    private static void sureAtTheLimit() {
        SkewFind x = nearLimit();
        Check.due("angle(125)", -125, x.angle(125));
        Check.due("mean() of 2.5, 1.75 and 1.75", 2.0, x.mean());
        Check.due("sure() of just 1.25 times", true, x.sure());
        Check.due("angle(124)", -124, x.angle(124));
        Check.due("mean() of 124", 1.75, x.mean());
        Check.due("sure() of 124", false, x.sure());
        x.put(0, 22, 1, true);
        Check.due("angle(125) with one end more", -125, x.angle(125));
        Check.due("sure() of a little less", false, x.sure());
    }

    private static void meanOfTheGrid() {
        SkewFind x = nearLimit();
        x.angle(0);
        Check.due("mean() of one sum", 1.75, x.mean());
        x.angle(225);
        double five = 0.0;
        for (int angle = -225; angle <= 225; angle += 100) {
            five = five + x.sum(angle);
        }
        Check.due("mean() of five sums", five / 5.0, x.mean());
    }

    private static void anglesThrow() {
        Class<?> wrong = IllegalArgumentException.class;
        SkewFind x = nearLimit();
        x.angle(125);
        Check.dueThrow("angle(-1)", wrong, x, () -> x.angle(-1));
        Check.dueThrow("angle(2001)", wrong, x, () -> x.angle(2001));
        Check.dueThrow("angle(MAX)", wrong, x, () -> x.angle(Integer.MAX_VALUE));
        Check.dueThrow("angle(MIN)", wrong, x, () -> x.angle(Integer.MIN_VALUE));
        SkewFind empty = new SkewFind(2, 2);
        Check.dueThrow("angle(-1), nothing on", wrong, empty, () -> empty.angle(-1));
        Check.dueThrow("angle(2001), nothing on", wrong, empty, () -> empty.angle(2001));
    }

    private interface Step {
        void doTo(SkewFind x);
    }

    private static void whatForgetsTheAngle() {
        dueForgotten("put()", x -> x.put(0, 0, 1, true));
        dueForgotten("turn(0, true)", x -> x.turn(0, true));
        dueForgotten("turn(0, false)", x -> x.turn(0, false));
        dueForgotten("clear()", SkewFind::clear);
        SkewFind x = nearLimit();
        x.turn(500, true);
        x.angle(125);
        x.back();
        Check.due("sure() after back()", "throws.IllegalStateException", Check.answerOf(x::sure));
        SkewFind empty = new SkewFind(3, 3);
        empty.angle(10);
        empty.clear();
        Check.due("mean() after clear(), nothing on", "throws.IllegalStateException", Check.answerOf(empty::mean));
    }

    private static void dueForgotten(String name, Step step) {
        SkewFind x = nearLimit();
        x.angle(125);
        step.doTo(x);
        Check.due("sure() after " + name, "throws.IllegalStateException", Check.answerOf(x::sure));
        Check.due("mean() after " + name, "throws.IllegalStateException", Check.answerOf(x::mean));
        x.angle(0);
        Check.due("sure() asked anew after " + name, false, Check.answerOf(x::sure));
    }

    private static void whatKeepsTheAngle() {
        SkewFind x = nearLimit();
        x.angle(125);
        x.back();
        x.crop(0);
        x.crop(3);
        x.sum(700);
        x.bands();
        x.put(23, 4, 1, true);
        Check.answerOf(() -> x.turn(2001, true));
        Check.answerOf(() -> x.angle(2001));
        Check.due("sure() is kept", true, Check.answerOf(x::sure));
        Check.due("mean() is kept", 2.0, Check.answerOf(x::mean));
    }
}
