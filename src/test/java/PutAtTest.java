/** Promises 2 and 3. */
final class PutAtTest {
    public static void main(String[] args) {
        putCountsWhatIsNew();
        putStopsAtTheRightEnd();
        putThrows();
        atThrows();
        onlyChangesOpenTheWindow();
        onlyChangesForgetTheAngle();
        putKeepsTheTurns();
        widestRow();
        Check.end();
    }

    private static void putCountsWhatIsNew() {
        SkewFind x = new SkewFind(6, 3);
        Check.due("put on", 3, x.put(1, 1, 3, true));
        Check.due("picture", "......|.###..|......", Check.pictureOf(x));
        Check.due("put half new", 1, x.put(2, 1, 3, true));
        Check.due("put nothing new", 0, x.put(1, 1, 4, true));
        Check.due("put off", 2, x.put(2, 1, 2, false));
        Check.due("put off half new", 1, x.put(2, 1, 3, false));
        Check.due("put off nothing new", 0, x.put(2, 1, 3, false));
        Check.due("picture", "......|.#....|......", Check.pictureOf(x));
        Check.due("at on", true, x.at(1, 1));
        Check.due("at off", false, x.at(2, 1));
    }

    private static void putStopsAtTheRightEnd() {
        SkewFind x = new SkewFind(4, 2);
        Check.due("put just to the end", 2, x.put(2, 0, 2, true));
        Check.due("put beyond the end", 1, x.put(3, 1, 2, true));
        Check.due("picture", "..##|...#", Check.pictureOf(x));
        Check.due("put very many", 3, x.put(0, 1, Integer.MAX_VALUE, true));
        Check.due("put off very many", 1, x.put(3, 0, Integer.MAX_VALUE, false));
        Check.due("picture", "..#.|####", Check.pictureOf(x));
    }

    private static void putThrows() {
        SkewFind x = Check.drawn("#..|.#.");
        x.crop(2);
        x.angle(300);
        Class<?> outside = IndexOutOfBoundsException.class;
        Class<?> wrong = IllegalArgumentException.class;
        Check.dueThrow("put(-1, 0)", outside, x, () -> x.put(-1, 0, 2, true));
        Check.dueThrow("put(3, 0)", outside, x, () -> x.put(3, 0, 1, true));
        Check.dueThrow("put(0, -1)", outside, x, () -> x.put(0, -1, 1, true));
        Check.dueThrow("put(0, 2)", outside, x, () -> x.put(0, 2, 1, true));
        Check.dueThrow("put(MIN, MAX)", outside, x,
            () -> x.put(Integer.MIN_VALUE, Integer.MAX_VALUE, 1, true));
        Check.dueThrow("put n 0", wrong, x, () -> x.put(0, 0, 0, false));
        Check.dueThrow("put n -1", wrong, x, () -> x.put(2, 1, -1, true));
        Check.dueThrow("put n MIN", wrong, x, () -> x.put(2, 1, Integer.MIN_VALUE, true));
        Check.dueThrow("put no sample before n", outside, x, () -> x.put(3, 0, 0, true));
        Check.dueThrow("put no sample before n", outside, x, () -> x.put(0, 2, -5, true));
    }

    private static void atThrows() {
        SkewFind x = Check.drawn("##|##|##");
        Class<?> outside = IndexOutOfBoundsException.class;
        Check.due("at(1, 2)", true, x.at(1, 2));
        Check.dueThrow("at(-1, 0)", outside, x, () -> x.at(-1, 0));
        Check.dueThrow("at(2, 0)", outside, x, () -> x.at(2, 0));
        Check.dueThrow("at(0, -1)", outside, x, () -> x.at(0, -1));
        Check.dueThrow("at(0, 3)", outside, x, () -> x.at(0, 3));
        Check.dueThrow("at(32, 0)", outside, x, () -> x.at(32, 0));
        Check.dueThrow("at(MAX, MIN)", outside, x, () -> x.at(Integer.MAX_VALUE, Integer.MIN_VALUE));
        SkewFind cropped = Check.drawn("...|.#.|...");
        cropped.crop(0);
        cropped.crop(3);
        Check.due("at a cropped sample", false, cropped.at(0, 2));
    }

    private static void onlyChangesOpenTheWindow() {
        SkewFind x = Check.drawn("...|.#.|...");
        x.crop(0);
        x.put(1, 1, 1, true);
        x.put(0, 0, 3, false);
        Check.due("size(0) after no change", 1, x.size(0));
        x.put(1, 1, 2, true);
        Check.due("size(0) after a change", 0, x.size(0));
    }

    private static void onlyChangesForgetTheAngle() {
        SkewFind x = Check.drawn("...|.#.|...");
        x.angle(0);
        x.put(1, 1, 1, true);
        x.put(0, 0, 3, false);
        Check.due("mean() after no change", 1.0, Check.answerOf(x::mean));
        x.put(1, 1, 1, false);
        Check.due("mean() after a change", "throws.IllegalStateException", Check.answerOf(x::mean));
        Check.due("sure() after a change", "throws.IllegalStateException", Check.answerOf(x::sure));
    }

    private static void putKeepsTheTurns() {
        SkewFind x = Check.drawn("...|.#.|...");
        x.turn(2000, true);
        x.put(0, 0, 3, true);
        Check.due("told(4)", 1, x.told(4));
        Check.due("back()", 0, x.back());
    }

    private static void widestRow() {
        SkewFind x = new SkewFind(24, 24);
        Check.due("put a whole row", 24, x.put(0, 23, 24, true));
        Check.due("put its last sample", 1, x.put(23, 23, 9, false));
        Check.due("at(22, 23)", true, x.at(22, 23));
        Check.due("at(23, 23)", false, x.at(23, 23));
        Check.due("told(2)", 23, x.told(2));
    }
}
