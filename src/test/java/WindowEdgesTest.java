/** The edges of promises 10 and 11: each sentence of the document that names one has its own checks. */
final class WindowEdgesTest {
    private static final String MIDDLE = ".......|...#...|..#....|.......|.......|.......";

    public static void main(String[] args) {
        Check.sentence("Promise 10", "by all columns (or rows) on that side that have nothing on (each side)",
            WindowEdgesTest::eachSide);
        Check.sentence("Promise 10", "all columns (or rows) on that side (as far as the last one)",
            WindowEdgesTest::toTheLastOne);
        Check.sentence("Promise 10", "all columns (or rows) on that side (none)", WindowEdgesTest::noneToCrop);
        Check.sentence("Promise 10", "on that side (not those behind what is on)", WindowEdgesTest::gapsStay);
        Check.sentence("Promise 10", "not at all, if nothing is on", WindowEdgesTest::nothingOn);
        Check.sentence("Promise 10", "by how many (once more)", WindowEdgesTest::onceMore);
        Check.sentence("Promise 10", "there is no such .. side", WindowEdgesTest::noSideToCrop);
        Check.sentence("Promise 11", "there is no such .. side", WindowEdgesTest::noSideToTell);
        Check.sentence("Promise 11", "a right and a lower one (one behind the last)", WindowEdgesTest::oneBehind);
        Check.sentence("Promise 11", "at first .. it is the whole picture", WindowEdgesTest::atFirst);
        Check.sentence("Promise 11", "whenever put() changes a sample", WindowEdgesTest::putOpens);
        Check.sentence("Promise 11", "whenever put() changes a sample (it did not)", WindowEdgesTest::putKeeps);
        Check.sentence("Promise 11", "by each turn", WindowEdgesTest::turnsOpen);
        Check.sentence("Promise 11", "also BACK", WindowEdgesTest::backOpens);
        Check.sentence("Promise 11", "also BACK (no turn was made)", WindowEdgesTest::noBackKeeps);
        Check.sentence("Promise 11", "THE WINDOW (by no other call)", WindowEdgesTest::othersKeep);
        Check.sentence("Promises 11 and 17", "the WINDOW is the whole picture", WindowEdgesTest::clearOpens);
        Check.end();
    }

    private static void eachSide() {
        int[] by = {2, 1, 3, 3};
        int[][] sizes = {{2, 0, 7, 6}, {0, 1, 7, 6}, {0, 0, 4, 6}, {0, 0, 7, 3}};
        for (int side = 0; side < 4; side++) {
            SkewFind x = Check.drawn(MIDDLE);
            Check.due("crop(" + side + ")", by[side], x.crop(side));
            Check.dueSizes("after crop(" + side + ")", x, sizes[side]);
        }
    }

    private static void toTheLastOne() {
        SkewFind last = Check.dotted(24, 24, 23, 23);
        Check.due("crop(0) to the last column", 23, last.crop(0));
        Check.due("crop(1) to the last row", 23, last.crop(1));
        Check.due("crop(2)", 0, last.crop(2));
        Check.due("crop(3)", 0, last.crop(3));
        Check.dueSizes("the last sample", last, 23, 23, 24, 24);
        SkewFind first = Check.dotted(24, 24, 0, 0);
        Check.due("crop(3) to the first row", 23, first.crop(3));
        Check.due("crop(2) to the first column", 23, first.crop(2));
        Check.due("crop(1)", 0, first.crop(1));
        Check.due("crop(0)", 0, first.crop(0));
        Check.dueSizes("the first sample", first, 0, 0, 1, 1);
    }

    private static void noneToCrop() {
        String[] pictures = {"#", "#..|...|..#", "..#|...|#..", "##|##", ".#.|#.#|.#."};
        for (String picture : pictures) {
            SkewFind x = Check.drawn(picture);
            for (int side = 0; side < 4; side++) {
                Check.due(picture + " crop(" + side + ")", 0, x.crop(side));
            }
            Check.dueSizes(picture, x, 0, 0, x.told(0), x.told(1));
        }
    }

    private static void gapsStay() {
        SkewFind x = Check.drawn(".......|.#...#.|.......|.......|.#...#.|.......");
        for (int side = 0; side < 4; side++) {
            Check.due("crop(" + side + ")", 1, x.crop(side));
        }
        Check.dueSizes("a frame of four", x, 1, 1, 6, 5);
    }

    private static void nothingOn() {
        int[] sizes = {1, 2, 23, 24};
        for (int size : sizes) {
            SkewFind x = new SkewFind(size, 25 - size);
            for (int side = 0; side < 4; side++) {
                Check.due("crop(" + side + ") of nothing", 0, x.crop(side));
            }
            Check.dueSizes("of nothing", x, 0, 0, size, 25 - size);
        }
        SkewFind off = Check.drawn("...|.#.|...");
        off.crop(0);
        off.put(1, 1, 1, false);
        for (int side = 0; side < 4; side++) {
            Check.due("crop(" + side + ") when the last sample is off", 0, off.crop(side));
        }
        Check.dueSizes("when the last sample is off", off, 0, 0, 3, 3);
    }

    private static void onceMore() {
        SkewFind x = Check.drawn(MIDDLE);
        for (int side = 3; side >= 0; side--) {
            Check.due("crop(" + side + ")", new int[] {2, 1, 3, 3}[side], x.crop(side));
            Check.due("crop(" + side + ") once more", 0, x.crop(side));
        }
        Check.dueSizes("all cropped", x, 2, 1, 4, 3);
    }

    private static final int[] NO_SIDES = {-1, -2, 4, 5, 100, Integer.MIN_VALUE, Integer.MAX_VALUE};

    private static void noSideToCrop() {
        SkewFind x = Check.drawn(MIDDLE);
        x.crop(2);
        SkewFind empty = new SkewFind(2, 2);
        for (int side : NO_SIDES) {
            Class<?> outside = IndexOutOfBoundsException.class;
            Check.dueThrow("crop(" + side + ")", outside, x, () -> x.crop(side));
            Check.dueThrow("crop(" + side + ") of nothing", outside, empty, () -> empty.crop(side));
        }
        Check.due("crop(0)", 2, Check.answerOf(() -> x.crop(0)));
        Check.due("crop(3)", 3, Check.answerOf(() -> x.crop(3)));
    }

    private static void noSideToTell() {
        SkewFind x = Check.drawn(MIDDLE);
        x.crop(2);
        for (int side : NO_SIDES) {
            Check.dueThrow("size(" + side + ")", IndexOutOfBoundsException.class, x, () -> x.size(side));
        }
        Check.due("size(0)", 0, Check.answerOf(() -> x.size(0)));
        Check.due("size(3)", 6, Check.answerOf(() -> x.size(3)));
    }

    private static void oneBehind() {
        SkewFind x = Check.drawn("#..|...");
        Check.due("size(2) of the whole picture", 3, x.size(2));
        Check.due("size(3) of the whole picture", 2, x.size(3));
        x.crop(2);
        x.crop(3);
        Check.due("size(2) when column 0 is the last", 1, x.size(2));
        Check.due("size(3) when row 0 is the last", 1, x.size(3));
    }

    private static void atFirst() {
        Check.dueSizes("1 by 1", new SkewFind(1, 1), 0, 0, 1, 1);
        Check.dueSizes("24 by 24", new SkewFind(24, 24), 0, 0, 24, 24);
        Check.dueSizes("5 by 7", new SkewFind(5, 7), 0, 0, 5, 7);
        Check.dueSizes("too large", new SkewFind(99, 25), 0, 0, 24, 24);
        Check.dueSizes("too small", new SkewFind(0, -9), 0, 0, 1, 1);
    }

    private static SkewFind cropped() {
        SkewFind x = Check.drawn(MIDDLE);
        for (int side = 0; side < 4; side++) {
            x.crop(side);
        }
        return x;
    }

    private static void dueOpen(String name, SkewFind x, Check.Step step) {
        for (int side = 0; side < 4; side++) {
            x.crop(side);
        }
        step.doTo(x);
        Check.dueSizes("after " + name, x, 0, 0, 7, 6);
    }

    private static void dueKept(String name, SkewFind x, Check.Step step) {
        for (int side = 0; side < 4; side++) {
            x.crop(side);
        }
        step.doTo(x);
        Check.dueSizes("after " + name, x, 2, 1, 4, 3);
    }

    private static void putOpens() {
        dueOpen("one on, inside", cropped(), x -> x.put(2, 1, 1, true));
        dueOpen("one on, outside", cropped(), x -> x.put(6, 5, 1, true));
        dueOpen("one off", cropped(), x -> x.put(2, 2, 1, false));
        dueOpen("one of many on", cropped(), x -> x.put(2, 1, 2, true));
        dueOpen("on and off again", cropped(), x -> {
            x.put(0, 0, 1, true);
            x.put(0, 0, 1, false);
        });
        dueOpen("all off", cropped(), x -> {
            x.put(2, 2, 1, false);
            x.put(3, 1, 1, false);
        });
    }

    private static void putKeeps() {
        dueKept("on again", cropped(), x -> x.put(3, 1, 1, true));
        dueKept("off again, outside", cropped(), x -> x.put(0, 5, 7, false));
        dueKept("off again, inside", cropped(), x -> x.put(0, 1, 3, false));
        dueKept("a put() that was refused", cropped(), x -> Check.answerOf(() -> x.put(0, 0, 0, true)));
        dueKept("a put() outside", cropped(), x -> Check.answerOf(() -> x.put(7, 0, 1, true)));
    }

    private static void turnsOpen() {
        dueOpen("turn(0, true)", cropped(), x -> x.turn(0, true));
        dueOpen("turn(0, false)", cropped(), x -> x.turn(0, false));
        dueOpen("turn(2000, true)", cropped(), x -> x.turn(2000, true));
        dueOpen("turn(-2000, false)", cropped(), x -> x.turn(-2000, false));
    }

    private static void backOpens() {
        SkewFind x = cropped();
        x.turn(2000, true);
        x.turn(0, true);
        dueOpen("back() by 0", x, SkewFind::back);
        dueOpen("back()", x, SkewFind::back);
    }

    private static void noBackKeeps() {
        dueKept("back() of none", cropped(), SkewFind::back);
        SkewFind x = cropped();
        x.turn(2000, true);
        x.back();
        dueKept("back() when none is left", x, SkewFind::back);
    }

    private static void othersKeep() {
        dueKept("angle()", cropped(), x -> x.angle(2000));
        dueKept("sum()", cropped(), x -> x.sum(5));
        dueKept("sure()", cropped(), x -> Check.answerOf(x::sure));
        dueKept("mean()", cropped(), x -> Check.answerOf(x::mean));
        dueKept("at()", cropped(), x -> x.at(0, 0));
        dueKept("size()", cropped(), x -> x.size(0));
        dueKept("bands()", cropped(), SkewFind::bands);
        dueKept("band()", cropped(), x -> x.band(0, 0));
        dueKept("line()", cropped(), x -> x.line(0, 0.0));
        dueKept("upside()", cropped(), SkewFind::upside);
        dueKept("told()", cropped(), x -> x.told(2));
        dueKept("a crop() that was refused", cropped(), x -> Check.answerOf(() -> x.crop(4)));
        dueKept("a turn() that was refused", cropped(), x -> Check.answerOf(() -> x.turn(2001, true)));
        SkewFind full = cropped();
        for (int i = 0; i < 16; i++) {
            full.turn(0, true);
        }
        dueKept("a turn() without room", full, x -> Check.answerOf(() -> x.turn(0, true)));
    }

    private static void clearOpens() {
        dueOpen("clear()", cropped(), SkewFind::clear);
    }
}
