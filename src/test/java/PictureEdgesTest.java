/** The edges of promises 1, 2, 3, 16 and 17: each sentence of the document that names one has its own checks. */
final class PictureEdgesTest {
    private static final int LEAST = Integer.MIN_VALUE;
    private static final int MOST = Integer.MAX_VALUE;
    private static final Class<?> OUTSIDE = IndexOutOfBoundsException.class;
    private static final Class<?> WRONG = IllegalArgumentException.class;

    public static void main(String[] args) {
        Check.sentence("Promise 1", "a width and a height of 1 .. 24", PictureEdgesTest::sizesThatCount);
        Check.sentence("Promise 1", "others count as the nearest of these (too small)", PictureEdgesTest::tooSmall);
        Check.sentence("Promise 1", "others count as the nearest of these (too large)", PictureEdgesTest::tooLarge);
        Check.sentence("Promise 1", "no sample is on", PictureEdgesTest::nothingAtFirst);
        Check.sentence("Promise 1", "THE WINDOW is all of it", PictureEdgesTest::windowAtFirst);
        Check.sentence("Promise 2", "n to the right or as many as there are", PictureEdgesTest::asManyAsThereAre);
        Check.sentence("Promise 2", "n to the right or as many as there are (the largest n)",
            PictureEdgesTest::veryMany);
        Check.sentence("Promise 2", "for how many that is new", PictureEdgesTest::howManyAreNew);
        Check.sentence("Promise 2", "n is below 1", PictureEdgesTest::belowOne);
        Check.sentence("Promise 2", "there is no such sample", PictureEdgesTest::putOutside);
        Check.sentence("Promise 3", "there is no such sample", PictureEdgesTest::atOutside);
        Check.sentence("Promise 3", "Whether a sample is on", PictureEdgesTest::cornersAreTold);
        Check.sentence("Promise 16", "NONE for another what", PictureEdgesTest::toldAnother);
        Check.sentence("Promise 16", "samples on (2)", PictureEdgesTest::emptyAndFull);
        Check.sentence("Promise 16", "whose right neighbour is not, or is not there", PictureEdgesTest::runEnds);
        Check.sentence("Promise 16", "turns that can go BACK (4)", PictureEdgesTest::turnsTold);
        Check.sentence("Promise 17", "Nothing is on", PictureEdgesTest::clearOfFullAndEmpty);
        Check.sentence("Promise 17", "no turn can go BACK", PictureEdgesTest::clearOfTurns);
        Check.sentence("Promise 17", "the WINDOW is the whole picture", PictureEdgesTest::clearOfWindow);
        Check.sentence("Promises 1 to 17", "at most 512 calls after it has been made", PictureEdgesTest::lastCall);
        Check.end();
    }

    private static void dueSize(int askedWidth, int askedHeight, int width, int height) {
        String name = "new SkewFind(" + askedWidth + ", " + askedHeight + ")";
        SkewFind x = new SkewFind(askedWidth, askedHeight);
        Check.due(name + " told(0)", width, x.told(0));
        Check.due(name + " told(1)", height, x.told(1));
        Check.due(name + " size(2)", width, x.size(2));
        Check.due(name + " size(3)", height, x.size(3));
        Check.due(name + " put() of the last row", width, x.put(0, height - 1, 100, true));
        Check.due(name + " at() of the last sample", true, x.at(width - 1, height - 1));
        Check.dueThrow(name + " at() behind the last column", OUTSIDE, x, () -> x.at(width, 0));
        Check.dueThrow(name + " at() behind the last row", OUTSIDE, x, () -> x.at(0, height));
    }

    private static void sizesThatCount() {
        for (int size = 1; size <= 24; size++) {
            dueSize(size, 25 - size, size, 25 - size);
        }
        dueSize(1, 1, 1, 1);
        dueSize(24, 24, 24, 24);
    }

    private static void tooSmall() {
        for (int size : new int[] {0, -1, -2, -23, -24, -25, LEAST}) {
            dueSize(size, 5, 1, 5);
            dueSize(5, size, 5, 1);
            dueSize(size, size, 1, 1);
        }
    }

    private static void tooLarge() {
        for (int size : new int[] {25, 26, 32, 33, 48, 256, 65537, MOST}) {
            dueSize(size, 5, 24, 5);
            dueSize(5, size, 5, 24);
            dueSize(size, size, 24, 24);
        }
        dueSize(25, 0, 24, 1);
        dueSize(LEAST, MOST, 1, 24);
    }

    private static void nothingAtFirst() {
        for (int size : new int[] {1, 2, 23, 24}) {
            SkewFind x = new SkewFind(size, size);
            Check.due("has something on", false, Check.pictureOf(x).contains("#"));
            Check.due("told(2)", 0, x.told(2));
            Check.due("told(3)", 0, x.told(3));
            Check.due("bands()", 0, x.bands());
        }
    }

    private static void windowAtFirst() {
        for (int size : new int[] {1, 2, 23, 24}) {
            SkewFind x = new SkewFind(size, 25 - size);
            Check.due("size(0)", 0, x.size(0));
            Check.due("size(1)", 0, x.size(1));
            Check.due("size(2)", size, x.size(2));
            Check.due("size(3)", 25 - size, x.size(3));
        }
    }

    private static void duePut(String picture, int x, int y, int n, boolean on, int want, String after) {
        SkewFind page = Check.drawn(picture);
        String name = picture + " put(" + x + ", " + y + ", " + n + ", " + on + ")";
        Check.due(name, want, page.put(x, y, n, on));
        Check.due("the picture of " + name, after, Check.pictureOf(page));
    }

    private static void asManyAsThereAre() {
        duePut(".....|.....", 2, 0, 2, true, 2, "..##.|.....");
        duePut(".....|.....", 2, 0, 3, true, 3, "..###|.....");
        duePut(".....|.....", 2, 0, 4, true, 3, "..###|.....");
        duePut(".....|.....", 4, 1, 1, true, 1, ".....|....#");
        duePut(".....|.....", 4, 0, 2, true, 1, "....#|.....");
        duePut(".....|.....", 0, 1, 6, true, 5, ".....|#####");
        duePut("#####|#####", 2, 0, 2, false, 2, "##..#|#####");
        duePut("#####|#####", 2, 0, 3, false, 3, "##...|#####");
        duePut("#####|#####", 2, 0, 4, false, 3, "##...|#####");
        duePut(".", 0, 0, 2, true, 1, "#");
    }

    private static void veryMany() {
        for (int n : new int[] {24, 25, 31, 32, 33, 64, 65536, MOST - 1, MOST}) {
            duePut(".....|.....", 0, 0, n, true, 5, "#####|.....");
            duePut(".....|.....", 1, 0, n, true, 4, ".####|.....");
            duePut("#####|#####", 4, 0, n, false, 1, "####.|#####");
            SkewFind x = new SkewFind(24, 24);
            Check.due("put(0, 0, " + n + ", true)", 24, x.put(0, 0, n, true));
            Check.due("put(23, 23, " + n + ", true)", 1, x.put(23, 23, n, true));
            Check.due("told(2)", 25, x.told(2));
        }
    }

    private static void howManyAreNew() {
        duePut("#.#.", 0, 0, 4, true, 2, "####");
        duePut("#.#.", 0, 0, 4, false, 2, "....");
        duePut("####", 0, 0, 4, true, 0, "####");
        duePut("....", 0, 0, 4, false, 0, "....");
        duePut("#...", 0, 0, 1, true, 0, "#...");
        duePut("#...", 1, 0, 3, false, 0, "#...");
        duePut("###.", 1, 0, 9, true, 1, "####");
    }

    private static void belowOne() {
        duePut("...", 1, 0, 1, true, 1, ".#.");
        for (int n : new int[] {0, -1, -2, -24, LEAST + 1, LEAST}) {
            SkewFind x = Check.drawn("#..|.#.");
            Check.dueThrow("put(0, 0, " + n + ", true)", WRONG, x, () -> x.put(0, 0, n, true));
            Check.dueThrow("put(0, 0, " + n + ", false)", WRONG, x, () -> x.put(0, 0, n, false));
            Check.dueThrow("put(2, 1, " + n + ", true)", WRONG, x, () -> x.put(2, 1, n, true));
        }
    }

    // Of 3 by 2: one beyond each side, and far beyond, also where a shift of bits would come round again.
    private static final int[][] NO_SAMPLES = {
        {-1, 0}, {3, 0}, {0, -1}, {0, 2}, {-1, -1}, {3, 2}, {2, 2}, {3, 1}, {-1, 1}, {1, -1},
        {24, 0}, {0, 24}, {32, 0}, {0, 32}, {-32, 0}, {0, -32},
        {LEAST, 0}, {0, LEAST}, {MOST, 0}, {0, MOST}, {LEAST, MOST},
    };

    private static void putOutside() {
        SkewFind x = Check.drawn("#..|.#.");
        for (int[] place : NO_SAMPLES) {
            String name = "put(" + place[0] + ", " + place[1] + ", 5, ..)";
            Check.dueThrow(name, OUTSIDE, x, () -> x.put(place[0], place[1], 5, true));
            Check.dueThrow(name, OUTSIDE, x, () -> x.put(place[0], place[1], 5, false));
        }
        Check.due("put(0, 0)", 0, x.put(0, 0, 1, true));
        Check.due("put(2, 0)", 1, x.put(2, 0, 1, true));
        Check.due("put(0, 1)", 1, x.put(0, 1, 1, true));
        Check.due("put(2, 1)", 1, x.put(2, 1, 1, true));
    }

    private static void atOutside() {
        SkewFind x = Check.drawn("###|###");
        for (int[] place : NO_SAMPLES) {
            String name = "at(" + place[0] + ", " + place[1] + ")";
            Check.dueThrow(name, OUTSIDE, x, () -> x.at(place[0], place[1]));
        }
    }

    private static void cornersAreTold() {
        SkewFind x = new SkewFind(24, 24);
        int[][] corners = {{0, 0}, {23, 0}, {0, 23}, {23, 23}};
        for (int[] corner : corners) {
            String name = "at(" + corner[0] + ", " + corner[1] + ")";
            Check.due(name, false, x.at(corner[0], corner[1]));
            x.put(corner[0], corner[1], 1, true);
            Check.due(name + " on", true, x.at(corner[0], corner[1]));
            Check.due("told(2)", 1, x.told(2));
            x.put(corner[0], corner[1], 1, false);
            Check.due(name + " off again", false, x.at(corner[0], corner[1]));
        }
    }

    private static void toldAnother() {
        SkewFind x = Check.drawn("#..|.#.");
        x.turn(0, true);
        for (int what : new int[] {-1, -2, 5, 6, 100, LEAST, MOST}) {
            Check.due("told(" + what + ")", -1, x.told(what));
        }
        int[] want = {3, 2, 2, 2, 1};
        for (int what = 0; what < 5; what++) {
            Check.due("told(" + what + ")", want[what], x.told(what));
        }
    }

    private static void emptyAndFull() {
        SkewFind x = new SkewFind(24, 24);
        Check.due("told(2) of nothing", 0, x.told(2));
        for (int row = 0; row < 24; row++) {
            x.put(0, row, 24, true);
            Check.due("told(2)", 24 * (row + 1), x.told(2));
        }
        x.put(23, 23, 1, false);
        Check.due("told(2) of all but one", 575, x.told(2));
    }

    private static void runEnds() {
        Check.due("nothing", 0, new SkewFind(4, 2).told(3));
        Check.due("one sample, the right neighbour is off", 1, Check.drawn("#.").told(3));
        Check.due("one sample, the right neighbour is on", 1, Check.drawn("##").told(3));
        Check.due("one sample without a right neighbour", 1, Check.drawn(".#").told(3));
        Check.due("one column", 2, Check.drawn("#|#|.").told(3));
        Check.due("all on", 3, Check.drawn("####|####|####").told(3));
        Check.due("the last column and the next row's first", 2, Check.drawn("..#|#..").told(3));
        SkewFind wide = new SkewFind(24, 1);
        wide.put(22, 0, 2, true);
        Check.due("the last two of 24", 1, wide.told(3));
        wide.put(22, 0, 1, false);
        Check.due("the last one of 24", 1, wide.told(3));
        wide.put(0, 0, 1, true);
        Check.due("the first and the last of 24", 2, wide.told(3));
    }

    private static void turnsTold() {
        SkewFind x = Check.drawn("#..|.#.");
        Check.due("told(4) at first", 0, x.told(4));
        for (int i = 1; i <= 16; i++) {
            x.turn(0, true);
            Check.due("told(4)", i, x.told(4));
        }
        Check.answerOf(() -> x.turn(0, true));
        Check.due("told(4) after one that was refused", 16, x.told(4));
        for (int i = 15; i >= 0; i--) {
            x.back();
            Check.due("told(4) after back()", i, x.told(4));
        }
        x.back();
        Check.due("told(4) after back() of none", 0, x.told(4));
    }

    private static void clearOfFullAndEmpty() {
        SkewFind x = new SkewFind(24, 24);
        x.clear();
        Check.due("told(2) after clear() of nothing", 0, x.told(2));
        for (int row = 0; row < 24; row++) {
            x.put(0, row, 24, true);
        }
        x.clear();
        Check.due("something is on", false, Check.pictureOf(x).contains("#"));
        Check.due("told(2)", 0, x.told(2));
        Check.due("bands()", 0, x.bands());
        Check.due("told(0)", 24, x.told(0));
        Check.due("told(1)", 24, x.told(1));
    }

    private static void clearOfTurns() {
        SkewFind x = Check.drawn("#..|.#.");
        for (int i = 0; i < 16; i++) {
            x.turn(100, true);
        }
        x.clear();
        Check.due("told(4)", 0, x.told(4));
        Check.due("back()", -1, x.back());
        x.put(0, 0, 1, true);
        Check.due("back() after put()", -1, x.back());
        for (int i = 1; i <= 16; i++) {
            Check.due("turn() number " + i, 1, Check.answerOf(() -> x.turn(100, true)));
        }
        SkewFind empty = new SkewFind(4, 4);
        empty.turn(0, true);
        empty.clear();
        Check.due("back() of a picture that was empty before clear()", -1, empty.back());
    }

    private static void clearOfWindow() {
        SkewFind x = Check.drawn("....|.#..|....");
        for (int side = 0; side < 4; side++) {
            x.crop(side);
        }
        x.clear();
        Check.due("size(0)", 0, x.size(0));
        Check.due("size(1)", 0, x.size(1));
        Check.due("size(2)", 4, x.size(2));
        Check.due("size(3)", 3, x.size(3));
    }

    private static void lastCall() {
        SkewFind x = new SkewFind(24, 24);
        for (int i = 0; i < 511; i++) {
            x.put(i % 24, i / 24, 1, true);
        }
        Check.due("the 512th call, told(2)", 511, x.told(2));
        SkewFind again = new SkewFind(5, 5);
        for (int i = 0; i < 511; i++) {
            again.put(0, 0, 1, i % 2 == 0);
        }
        Check.due("the 512th call, at(0, 0)", true, again.at(0, 0));
    }
}
