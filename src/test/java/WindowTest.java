/** Promises 10 and 11. */
final class WindowTest {
    public static void main(String[] args) {
        eachSide();
        nothingOn();
        nothingToCrop();
        cropsDoNotChangeSamples();
        sidesThrow();
        Check.end();
    }

    private static void dueSizes(String name, SkewFind x, int... want) {
        for (int side = 0; side < 4; side++) {
            Check.due(name + " size(" + side + ")", want[side], x.size(side));
        }
    }

    private static void eachSide() {
        String picture = ".......|...#...|..#....|.......|.......|.......";
        SkewFind x = Check.drawn(picture);
        dueSizes("at first", x, 0, 0, 7, 6);
        Check.due("crop(0)", 2, x.crop(0));
        dueSizes("left", x, 2, 0, 7, 6);
        Check.due("crop(1)", 1, x.crop(1));
        dueSizes("left and upper", x, 2, 1, 7, 6);
        Check.due("crop(2)", 3, x.crop(2));
        dueSizes("left, upper and right", x, 2, 1, 4, 6);
        Check.due("crop(3)", 3, x.crop(3));
        dueSizes("all", x, 2, 1, 4, 3);
        for (int side = 0; side < 4; side++) {
            Check.due("crop(" + side + ") again", 0, x.crop(side));
        }
        dueSizes("all again", x, 2, 1, 4, 3);
        for (int side = 0; side < 4; side++) {
            SkewFind alone = Check.drawn(picture);
            Check.due("crop(" + side + ") alone", new int[] {2, 1, 3, 3}[side], alone.crop(side));
        }
    }

    private static void nothingOn() {
        SkewFind x = new SkewFind(5, 3);
        for (int side = 0; side < 4; side++) {
            Check.due("crop(" + side + ") of nothing", 0, x.crop(side));
        }
        dueSizes("nothing on", x, 0, 0, 5, 3);
        x.put(2, 1, 1, true);
        x.crop(0);
        x.clear();
        dueSizes("after clear()", x, 0, 0, 5, 3);
        x.put(2, 1, 1, true);
        x.crop(0);
        x.put(2, 1, 1, false);
        Check.due("crop(3) when the last is off", 0, x.crop(3));
        dueSizes("when the last is off", x, 0, 0, 5, 3);
    }

    private static void nothingToCrop() {
        SkewFind x = Check.drawn("#..|...|..#");
        for (int side = 0; side < 4; side++) {
            Check.due("crop(" + side + ")", 0, x.crop(side));
        }
        dueSizes("nothing to crop", x, 0, 0, 3, 3);
        SkewFind least = Check.drawn("#");
        for (int side = 0; side < 4; side++) {
            Check.due("crop(" + side + ") of 1 by 1", 0, least.crop(side));
        }
        SkewFind corner = Check.dotted(24, 24, 23, 23);
        Check.due("crop(0) to the last column", 23, corner.crop(0));
        Check.due("crop(1) to the last row", 23, corner.crop(1));
        Check.due("crop(2)", 0, corner.crop(2));
        Check.due("crop(3)", 0, corner.crop(3));
        dueSizes("the last corner", corner, 23, 23, 24, 24);
    }

    private static void cropsDoNotChangeSamples() {
        SkewFind x = Check.drawn("....|.#..|....");
        for (int side = 0; side < 4; side++) {
            x.crop(side);
        }
        Check.due("the picture", "....|.#..|....", Check.pictureOf(x));
        Check.due("told(0)", 4, x.told(0));
        Check.due("told(1)", 3, x.told(1));
        Check.due("band(0, 0)", 1, x.band(0, 0));
        Check.due("line(0, 0.0)", 16, x.line(0, 0.0));
    }

    private static void sidesThrow() {
        SkewFind x = Check.drawn("....|.#..|....");
        x.crop(2);
        Class<?> outside = IndexOutOfBoundsException.class;
        for (int side : new int[] {-1, 4, Integer.MIN_VALUE, Integer.MAX_VALUE}) {
            Check.dueThrow("crop(" + side + ")", outside, x, () -> x.crop(side));
            Check.dueThrow("size(" + side + ")", outside, x, () -> x.size(side));
        }
        SkewFind empty = new SkewFind(2, 2);
        Check.dueThrow("crop(4), nothing on", outside, empty, () -> empty.crop(4));
    }
}
