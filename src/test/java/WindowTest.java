/** Promises 10 and 11. */
final class WindowTest {
    public static void main(String[] args) {
        eachSide();
        cropsDoNotChangeSamples();
        Check.end();
    }

    private static void eachSide() {
        String picture = ".......|...#...|..#....|.......|.......|.......";
        SkewFind x = Check.drawn(picture);
        Check.dueSizes("at first", x, 0, 0, 7, 6);
        Check.due("crop(0)", 2, x.crop(0));
        Check.dueSizes("left", x, 2, 0, 7, 6);
        Check.due("crop(1)", 1, x.crop(1));
        Check.dueSizes("left and upper", x, 2, 1, 7, 6);
        Check.due("crop(2)", 3, x.crop(2));
        Check.dueSizes("left, upper and right", x, 2, 1, 4, 6);
        Check.due("crop(3)", 3, x.crop(3));
        Check.dueSizes("all", x, 2, 1, 4, 3);
    }

    private static void cropsDoNotChangeSamples() {
        SkewFind x = Check.drawn("....|.#..|....");
        for (int side = 0; side < 4; side++) {
            x.crop(side);
        }
        Check.due("the picture", "....|.#..|....", Check.pictureOf(x));
        Check.due("told(0)", 4, x.told(0));
        Check.due("told(1)", 3, x.told(1));
        Check.due("band(0, 0)", 1, x.band(0, 0));
        Check.due("line(0, 0.0)", 16, x.line(0, 0.0));
    }
}
