/** The edges of promises 5, 6 and 7: each sentence of the document that names one has its own checks. */
final class SearchEdgesTest {
    private static final String NOT_ASKED = "throws.IllegalStateException";

    public static void main(String[] args) {
        Check.sentence("Promise 5", "for a bound m, 0 .. 2000", SearchEdgesTest::bounds);
        Check.sentence("Promise 5", "another number is none that is told", SearchEdgesTest::noBounds);
        Check.sentence("Promise 5", "of -m, -m + 100, .. as far as m (from -m on)", SearchEdgesTest::gridBegins);
        Check.sentence("Promise 5", "of -m, -m + 100, .. as far as m (m is reached)", SearchEdgesTest::gridReaches);
        Check.sentence("Promise 5", "of -m, -m + 100, .. as far as m (m is not reached)", SearchEdgesTest::gridStops);
        Check.sentence("Promise 5", "if these are not below -m", SearchEdgesTest::notBelow);
        Check.sentence("Promise 5", "if these are not .. above m", SearchEdgesTest::notAbove);
        Check.sentence("Promise 5", "if these are not .. above m (m itself)", SearchEdgesTest::justTheBound);
        Check.sentence("Promise 5", "of several always the least one (of the grid)", SearchEdgesTest::leastOfGrid);
        Check.sentence("Promise 5", "of several always the least one (one step less is as good)",
            SearchEdgesTest::lessIsAsGood);
        Check.sentence("Promise 5", "of several always the least one (one step more is as good)",
            SearchEdgesTest::moreIsAsGood);
        Check.sentence("Promise 5", "of several always the least one (both are better and equal)",
            SearchEdgesTest::bothAreEqual);
        Check.sentence("Promise 5", "of it and those one step less and one more .. that with the greatest SUM",
            SearchEdgesTest::greatestOfThree);
        Check.sentence("Promise 5", "100000 if nothing is on", SearchEdgesTest::noAngle);
        Check.sentence("Promise 6", "if its SUM is not below 1.25 * MEAN (just as much)", SearchEdgesTest::justSure);
        Check.sentence("Promise 6", "if its SUM is not below 1.25 * MEAN (a little below)", SearchEdgesTest::notSure);
        Check.sentence("Promise 6", "its SUM (of THE BEST, not of the first row's)", SearchEdgesTest::sumOfTheBest);
        Check.sentence("Promise 6", "the latest one", SearchEdgesTest::latestSure);
        Check.sentence("Promise 6", "false if nothing is on", SearchEdgesTest::neverSure);
        Check.sentence("Promise 7", "the SUMS of the first row", SearchEdgesTest::meanOfTheFirstRow);
        Check.sentence("Promise 7", "added up in order from 0.0 on", SearchEdgesTest::addedInOrder);
        Check.sentence("Promise 7", "divided by how many they are (one)", SearchEdgesTest::meanOfOne);
        Check.sentence("Promise 7", "MEAN of the latest", SearchEdgesTest::latestMean);
        Check.sentence("Promise 7", "0.0 if nothing is on", SearchEdgesTest::noMean);
        Check.sentence("Promises 6 and 7", "THE BEST angle was not asked for", SearchEdgesTest::neverAsked);
        Check.sentence("Promises 6 and 7", "since put() changed a sample", SearchEdgesTest::putForgets);
        Check.sentence("Promises 6 and 7", "since put() changed a sample (it did not)", SearchEdgesTest::putKeeps);
        Check.sentence("Promises 6 and 7", "since a turn", SearchEdgesTest::turnsForget);
        Check.sentence("Promises 6 and 7", "also BACK (one that was made)", SearchEdgesTest::backForgets);
        Check.sentence("Promises 6 and 7", "also BACK (one that was not made)", SearchEdgesTest::noBackKeeps);
        Check.sentence("Promises 6 and 7", "since clear()", SearchEdgesTest::clearForgets);
        Check.sentence("Promises 6 and 7", "IllegalState (no other call)", SearchEdgesTest::othersKeep);
        Check.end();
    }

    // Two ends, 10 columns and one row apart: on one line from 287 to 853.
    private static SkewFind down() {
        return Check.dotted(24, 24, 0, 0, 10, 1);
    }

    // The same upward: on one line from -853 to -287.
    private static SkewFind up() {
        return Check.dotted(24, 24, 0, 1, 10, 0);
    }

    private static void dueSearch(String name, SkewFind x, int most, int angle, double mean) {
        Check.due(name + " angle(" + most + ")", angle, x.angle(most));
        Check.due(name + " mean() of " + most, mean, x.mean());
    }

    private static void bounds() {
        dueSearch("down", down(), 0, 0, 1.0);
        dueSearch("down", down(), 1, -1, 1.0);
        // By the grid's 301 and the steps of 12 and 1; 287 is 14 less.
        dueSearch("down", down(), 1999, 288, 46.0 / 40.0);
        dueSearch("down", down(), 2000, 287, 47.0 / 41.0);
        dueSearch("up", up(), 2000, -853, 47.0 / 41.0);
    }

    private static void noBounds() {
        SkewFind x = down();
        x.angle(300);
        SkewFind empty = new SkewFind(24, 24);
        for (int most : new int[] {-1, -2, -100, -2000, 2001, 2002, 2100, Integer.MIN_VALUE, Integer.MAX_VALUE}) {
            Check.dueThrow("angle(" + most + ")", IllegalArgumentException.class, x, () -> x.angle(most));
            Check.dueThrow("angle(" + most + ") of nothing", IllegalArgumentException.class, empty,
                () -> empty.angle(most));
        }
    }

    private static void gridBegins() {
        // -853, -753, .. -353 are on one line, 747 is not: six of 18.
        dueSearch("up", up(), 853, -853, 24.0 / 18.0);
        // -287 is the first one, and the only one.
        dueSearch("up", up(), 287, -287, 7.0 / 6.0);
        dueSearch("up", up(), 286, -286, 1.0);
    }

    private static void gridReaches() {
        // -300, -200, .. 300: the seventh is m.
        dueSearch("down", down(), 300, 287, 8.0 / 7.0);
        dueSearch("down", down(), 350, 287, 9.0 / 8.0);
        SkewFind ends = Check.dotted(24, 24, 0, 0, 18, 7);
        // On one line from 1986 on: of the 41, m alone; the steps of 12 and 1 go down from there.
        dueSearch("steep", ends, 2000, 1987, 42.0 / 41.0);
    }

    private static void gridStops() {
        // -299, .. 201: m would be on one line, and is not tried.
        dueSearch("down", down(), 299, -299, 1.0);
        dueSearch("down", down(), 325, -325, 1.0);
        dueSearch("down", down(), 336, -336, 1.0);
        // -125, -25 and 75; the sum of 125 would be a fourth.
        dueSearch("near", nearLimit(), 125, -125, 2.0);
        // -1950, .. 1950: forty of them.
        dueSearch("down", down(), 1950, 287, 46.0 / 40.0);
    }

    // Two pairs of ends, on one line from 125 and from 169 on (or, upward, up to -125 and -169).
    private static SkewFind pairsDown() {
        return Check.dotted(24, 24, 0, 0, 23, 1, 0, 10, 17, 11);
    }

    private static SkewFind pairsUp() {
        return Check.dotted(24, 24, 0, 1, 23, 0, 0, 11, 17, 10);
    }

    private static void notBelow() {
        // -200 would have both pairs.
        dueSearch("pairs up", pairsUp(), 150, -150, 4.5 / 4.0);
        Check.due("sum(-150)", 1.5, pairsUp().sum(-150));
        Check.due("sum(-200)", 2.0, pairsUp().sum(-200));
        for (int most : new int[] {0, 1, 2, 3, 5, 6, 11, 12, 24, 25, 49, 50}) {
            dueSearch("one sample", Check.drawn("#"), most, -most, 1.0);
        }
        // -2050 would be on one line.
        SkewFind beyond = Check.dotted(24, 24, 0, 7, 18, 0, 0, 23, 15, 17);
        Check.due("steep angle(2000)", -2000, beyond.angle(2000));
    }

    private static void notAbove() {
        // From the grid's 150, 200 would have both pairs; from its 126, 176 would.
        dueSearch("pairs down", pairsDown(), 150, 125, 4.5 / 4.0);
        dueSearch("pairs down", pairsDown(), 174, 125, 4.5 / 4.0);
        // From 2000, 2050 would have both.
        SkewFind beyond = Check.dotted(24, 24, 0, 0, 18, 7, 0, 17, 15, 23);
        Check.due("steep sum(2000)", 1.5, beyond.sum(2000));
        Check.due("steep angle(2000)", 1987, beyond.angle(2000));
    }

    private static void justTheBound() {
        // From the grid's 125, 175 has both pairs, and so has 169 by the later steps.
        dueSearch("pairs down", pairsDown(), 175, 169, 4.5 / 4.0);
    }

    private static void leastOfGrid() {
        for (int most : new int[] {0, 50, 100, 150, 1000, 2000}) {
            Check.due("angle(" + most + ") of one sample", -most, Check.drawn(".|#").angle(most));
        }
        // 300, 400, .. 800 are as good: the steps go down from 300 alone.
        Check.due("angle(800)", 287, down().angle(800));
        // 338, 438, .. 838: 338 - 50 = 288, 287 by the step of 1.
        Check.due("angle(838)", 287, down().angle(838));
    }

    private static void lessIsAsGood() {
        // On one line from 287 to 853: the steps go down where that is as good.
        Check.due("angle(388), by 288", 287, down().angle(388));
        Check.due("angle(312), by 312 - 25", 287, Check.dotted(24, 24, 0, 0, 10, 1).angle(362));
        Check.due("up angle(2000), by -800 - 50 - 3", -853, up().angle(2000));
    }

    // The grid's -100 is the best, and one step more is as good for 50, 25, .. 1.
    private static void moreIsAsGood() {
        SkewFind x = Check.dotted(24, 24, 8, 0, 21, 3, 23, 0);
        Check.due("sum(-100)", 5.0 / 3.0, x.sum(-100));
        Check.due("sum(-50)", 5.0 / 3.0, x.sum(-50));
        Check.due("sum(-150)", 1.0, x.sum(-150));
        dueSearch("one step more is as good", x, 300, -122, 9.0 / 7.0);
        // Nothing less may be tried, and each step more is as good.
        dueSearch("one sample", Check.drawn("#"), 60, -60, 1.0);
    }

    private static void bothAreEqual() {
        SkewFind x = Check.dotted(24, 24, 4, 3, 11, 3, 13, 5, 19, 5, 21, 2);
        Check.due("sum(-200)", 11.0 / 5.0, x.sum(-200));
        Check.due("sum(-250)", 13.0 / 5.0, x.sum(-250));
        Check.due("sum(-150)", 13.0 / 5.0, x.sum(-150));
        Check.due("angle(300)", -260, x.angle(300));
    }

    private static void greatestOfThree() {
        // One step less of -200 is better, one step more is better still.
        SkewFind more = Check.dotted(24, 24, 9, 3, 11, 4, 13, 2, 17, 3, 19, 3, 21, 2, 23, 1);
        Check.due("sum(-200)", 17.0 / 7.0, more.sum(-200));
        Check.due("sum(-250)", 19.0 / 7.0, more.sum(-250));
        Check.due("sum(-150)", 21.0 / 7.0, more.sum(-150));
        Check.due("angle(300)", -150, more.angle(300));
        // One step (of 25) more of 150 is better, one step less is better still.
        SkewFind less = Check.dotted(24, 24, 3, 1, 8, 0, 10, 1, 16, 3, 17, 4, 21, 1, 23, 2);
        Check.due("sum(150)", 15.0 / 7.0, less.sum(150));
        Check.due("sum(175)", 17.0 / 7.0, less.sum(175));
        Check.due("sum(125)", 19.0 / 7.0, less.sum(125));
        Check.due("angle(250)", 125, less.angle(250));
        // One step less of -300 is as good, one step more is better.
        SkewFind best = Check.dotted(24, 24, 8, 3, 10, 5, 13, 2, 19, 4);
        Check.due("sum(-350)", 1.5, best.sum(-350));
        Check.due("sum(-300)", 1.5, best.sum(-300));
        Check.due("sum(-250)", 2.0, best.sum(-250));
        Check.due("angle(400)", -285, best.angle(400));
    }

    private static void noAngle() {
        for (int most : new int[] {0, 1, 100, 1999, 2000}) {
            Check.due("angle(" + most + ") of nothing", 100000, new SkewFind(24, 24).angle(most));
            Check.due("angle(" + most + ") of 1 by 1", 100000, new SkewFind(1, 1).angle(most));
        }
        SkewFind x = Check.drawn("#");
        Check.due("angle(0)", 0, x.angle(0));
        x.put(0, 0, 1, false);
        Check.due("angle(0) after the last sample is off", 100000, x.angle(0));
        x.put(0, 0, 1, true);
        Check.due("angle(0) after one is on again", 0, x.angle(0));
        x.clear();
        Check.due("angle(0) after clear()", 100000, x.angle(0));
    }

    // At -125 the end in column 23 comes to the line below, which then has 4 ends (20 / 8); else 14 / 8.
    private static SkewFind nearLimit() {
        return Check.dotted(24, 24, 23, 4, 0, 5, 2, 5, 4, 5, 0, 10, 0, 13, 0, 16, 0, 19);
    }

    private static void justSure() {
        SkewFind x = nearLimit();
        Check.due("angle(125)", -125, x.angle(125));
        Check.due("sum(-125)", 2.5, x.sum(-125));
        Check.due("mean()", 2.0, x.mean());
        Check.due("sure() of 1.25 times", true, x.sure());
    }

    private static void notSure() {
        SkewFind x = nearLimit();
        x.put(0, 22, 1, true);
        Check.due("angle(125)", -125, x.angle(125));
        Check.due("sum(-125)", 21.0 / 9.0, x.sum(-125));
        Check.due("mean()", (21.0 / 9.0 + 15.0 / 9.0 + 15.0 / 9.0) / 3.0, x.mean());
        Check.due("sure() of 1.235 times", false, x.sure());
        SkewFind even = Check.drawn("#|.|#");
        even.angle(2000);
        Check.due("sure() of equal sums", false, even.sure());
    }

    private static void sumOfTheBest() {
        // The first row's are all 1.0; the steps find two ends on one line.
        SkewFind x = Check.dotted(24, 24, 18, 9, 21, 8, 23, 5);
        dueSearch("found by steps", x, 175, -159, 1.0);
        Check.due("sum(-159)", 5.0 / 3.0, x.sum(-159));
        Check.due("sure()", true, x.sure());
    }

    private static void latestSure() {
        SkewFind x = nearLimit();
        x.angle(125);
        Check.due("sure() of 125", true, x.sure());
        x.angle(124);
        Check.due("sure() of 124", false, x.sure());
        x.angle(125);
        Check.due("sure() of 125 again", true, x.sure());
        Check.answerOf(() -> x.angle(2001));
        Check.due("sure() after a bound that was refused", true, x.sure());
    }

    private static void neverSure() {
        SkewFind x = new SkewFind(5, 5);
        for (int most : new int[] {0, 100, 2000}) {
            x.angle(most);
            Check.due("sure() of nothing, " + most, false, Check.answerOf(x::sure));
        }
        SkewFind late = nearLimit();
        late.angle(125);
        late.clear();
        late.angle(125);
        Check.due("sure() of nothing, when the one before was sure", false, Check.answerOf(late::sure));
    }

    private static void meanOfTheFirstRow() {
        // The steps' sums are up to 2.0, and are not in it.
        SkewFind x = pairsDown();
        x.angle(175);
        Check.due("mean()", 4.5 / 4.0, x.mean());
        SkewFind found = Check.dotted(24, 24, 18, 9, 21, 8, 23, 5);
        found.angle(175);
        Check.due("mean()", 1.0, found.mean());
    }

    private static void addedInOrder() {
        // 3.0 and six times 5.0 / 3.0: the other way round it would be 1.8571428571428572.
        SkewFind x = Check.dotted(24, 24, 2, 2, 10, 1, 14, 1);
        x.angle(300);
        Check.due("mean()", 1.857142857142857, x.mean());
        double total = 0.0;
        for (int angle = -300; angle <= 300; angle += 100) {
            total = total + x.sum(angle);
        }
        Check.due("mean() beside its sums", total / 7.0, x.mean());
    }

    private static void meanOfOne() {
        SkewFind x = nearLimit();
        for (int most : new int[] {0, 1, 49}) {
            x.angle(most);
            Check.due("mean() of the one sum of " + most, 1.75, x.mean());
        }
    }

    private static void latestMean() {
        SkewFind x = nearLimit();
        x.angle(125);
        Check.due("mean() of 125", 2.0, x.mean());
        x.angle(0);
        Check.due("mean() of 0", 1.75, x.mean());
        x.angle(125);
        Check.due("mean() of 125 again", 2.0, x.mean());
        Check.answerOf(() -> x.angle(-1));
        Check.due("mean() after a bound that was refused", 2.0, x.mean());
    }

    private static void noMean() {
        SkewFind x = new SkewFind(5, 5);
        for (int most : new int[] {0, 100, 2000}) {
            x.angle(most);
            Check.due("mean() of nothing, " + most, 0.0, Check.answerOf(x::mean));
        }
        SkewFind late = nearLimit();
        late.angle(125);
        late.clear();
        late.angle(125);
        Check.due("mean() of nothing, when the one before was 2.0", 0.0, Check.answerOf(late::mean));
    }

    private static void dueNotAsked(String name, SkewFind x) {
        Check.dueThrow("sure() " + name, IllegalStateException.class, x, x::sure);
        Check.dueThrow("mean() " + name, IllegalStateException.class, x, x::mean);
    }

    private static void dueForgotten(String name, SkewFind x, Check.Step step) {
        x.angle(125);
        Check.due("sure() before " + name, false, NOT_ASKED.equals(Check.answerOf(x::sure)));
        step.doTo(x);
        dueNotAsked("after " + name, x);
        x.angle(0);
        Check.due("sure() asked for anew after " + name, false, Check.answerOf(x::sure));
    }

    private static void dueKept(String name, SkewFind x, Check.Step step) {
        x.angle(125);
        Object sure = x.sure();
        Object mean = x.mean();
        step.doTo(x);
        Check.due("sure() after " + name, sure, Check.answerOf(x::sure));
        Check.due("mean() after " + name, mean, Check.answerOf(x::mean));
    }

    private static void neverAsked() {
        dueNotAsked("of a new object", new SkewFind(5, 5));
        dueNotAsked("with something on", nearLimit());
        SkewFind x = nearLimit();
        x.sum(0);
        Check.answerOf(() -> x.angle(2001));
        dueNotAsked("after sum() and an angle() that was refused", x);
    }

    private static void putForgets() {
        dueForgotten("one on", nearLimit(), x -> x.put(0, 0, 1, true));
        dueForgotten("one off", nearLimit(), x -> x.put(0, 10, 1, false));
        dueForgotten("one of many on", nearLimit(), x -> x.put(0, 5, 2, true));
        dueForgotten("the first one on", new SkewFind(5, 5), x -> x.put(0, 0, 1, true));
        dueForgotten("the only one off", Check.drawn("..|.#"), x -> x.put(1, 1, 1, false));
        dueForgotten("on and off again", nearLimit(), x -> {
            x.put(0, 0, 1, true);
            x.put(0, 0, 1, false);
        });
    }

    private static void putKeeps() {
        dueKept("on again", nearLimit(), x -> x.put(0, 5, 1, true));
        dueKept("off again", nearLimit(), x -> x.put(1, 0, 24, false));
        dueKept("off in an empty picture", new SkewFind(5, 5), x -> x.put(0, 0, 5, false));
        dueKept("a put() that was refused", nearLimit(), x -> Check.answerOf(() -> x.put(0, 0, 0, true)));
        dueKept("a put() outside", nearLimit(), x -> Check.answerOf(() -> x.put(24, 0, 1, true)));
    }

    private static void turnsForget() {
        dueForgotten("turn(0, true)", nearLimit(), x -> x.turn(0, true));
        dueForgotten("turn(0, false)", nearLimit(), x -> x.turn(0, false));
        dueForgotten("turn(2000, true)", nearLimit(), x -> x.turn(2000, true));
        dueForgotten("turn(-2000, false)", nearLimit(), x -> x.turn(-2000, false));
        dueForgotten("turn(0, true) of nothing", new SkewFind(5, 5), x -> x.turn(0, true));
        dueForgotten("turn(0, false) of nothing", new SkewFind(5, 5), x -> x.turn(0, false));
    }

    private static void backForgets() {
        SkewFind x = nearLimit();
        x.turn(0, true);
        x.turn(500, true);
        dueForgotten("back()", x, SkewFind::back);
        dueForgotten("back() by 0", x, SkewFind::back);
        SkewFind empty = new SkewFind(5, 5);
        empty.turn(0, true);
        dueForgotten("back() of nothing", empty, SkewFind::back);
    }

    private static void noBackKeeps() {
        dueKept("back() of none", nearLimit(), SkewFind::back);
        SkewFind x = nearLimit();
        x.turn(0, true);
        x.back();
        dueKept("back() when none is left", x, SkewFind::back);
        x.turn(0, true);
        x.turn(0, false);
        dueKept("back() when all are forgotten", x, SkewFind::back);
    }

    private static void clearForgets() {
        dueForgotten("clear()", Check.drawn("..|.#"), x -> {
            x.clear();
            dueNotAsked("just after clear()", x);
        });
        SkewFind empty = new SkewFind(5, 5);
        empty.angle(0);
        empty.clear();
        dueNotAsked("after clear() with nothing on", empty);
    }

    private static void othersKeep() {
        SkewFind x = nearLimit();
        dueKept("crop()", x, page -> page.crop(0));
        dueKept("crop()", x, page -> page.crop(3));
        dueKept("size()", x, page -> page.size(0));
        dueKept("at()", x, page -> page.at(0, 0));
        dueKept("sum()", x, page -> page.sum(700));
        dueKept("bands()", x, SkewFind::bands);
        dueKept("band()", x, page -> page.band(0, 0));
        dueKept("line()", x, page -> page.line(0, 0.0));
        dueKept("upside()", x, SkewFind::upside);
        dueKept("told()", x, page -> page.told(2));
        dueKept("sure() itself", x, SkewFind::sure);
        dueKept("mean() itself", x, SkewFind::mean);
        dueKept("a turn() that was refused", x, page -> Check.answerOf(() -> page.turn(2001, true)));
        for (int i = 0; i < 16; i++) {
            x.turn(0, true);
        }
        dueKept("a turn() without room", x, page -> Check.answerOf(() -> page.turn(0, true)));
    }
}
