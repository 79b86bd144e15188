/** Promises 2 and 3. */
final class PutAtTest {
    public static void main(String[] args) {
        putCountsWhatIsNew();
        croppedSamplesAreThere();
        putKeepsTheTurns();
        Check.end();
    }

    private static void putCountsWhatIsNew() {
        SkewFind x = new SkewFind(6, 3);
        Check.due("put on", 3, x.put(1, 1, 3, true));
        Check.due("picture", "......|.###..|......", Check.pictureOf(x));
        Check.due("put half new", 1, x.put(2, 1, 3, true));
        Check.due("put nothing new", 0, x.put(1, 1, 4, true));
        Check.due("put off", 2, x.put(2, 1, 2, false));
        Check.due("put off half new", 1, x.put(2, 1, 3, false));
        Check.due("put off nothing new", 0, x.put(2, 1, 3, false));
        Check.due("picture", "......|.#....|......", Check.pictureOf(x));
        Check.due("at on", true, x.at(1, 1));
        Check.due("at off", false, x.at(2, 1));
    }

    private static void croppedSamplesAreThere() {
        SkewFind x = Check.drawn("...|.#.|...");
        x.crop(0);
        x.crop(3);
        Check.due("at(0, 2), cropped", false, x.at(0, 2));
        Check.due("put(0, 2), cropped", 3, x.put(0, 2, 3, true));
        Check.due("at(0, 2), cropped and put on", true, x.at(0, 2));
    }

    private static void putKeepsTheTurns() {
        SkewFind x = Check.drawn("...|.#.|...");
        x.turn(2000, true);
        x.put(0, 0, 3, true);
        Check.due("told(4)", 1, x.told(4));
        Check.due("back()", 0, x.back());
    }
}
