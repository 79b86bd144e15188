/** Promises 8 and 9. */
final class TurnTest {
    private static final String LEVEL = ".........|.........|.........|.........|#########|"
        + ".........|.........|.........|.........";
    private static final String UPRIGHT = "....#....|....#....|....#....|....#....|....#....|"
        + "....#....|....#....|....#....|....#....";

    public static void main(String[] args) {
        exactTurn();
        whatLeavesComesInAgain();
        exactTurnsComeBack();
        backAfterOtherChanges();
        sampledTurn();
        termsOfSineAndCosine();
        sixteenTurns();
        whatForgetsTurns();
        turnsThrow();
        turnsOpenTheWindow();
        Check.end();
    }

    // 9 by 9 at 2000: the rows go by WHOLE((4 - y) * 0.1763..) = 1 1 0 0 0 0 0 -1 -1, twice,
    // the columns by WHOLE((x - 4) * 0.34202..) = -1 -1 -1 0 0 0 1 1 1.
    private static void exactTurn() {
        dueTurned(LEVEL, 2000, true, ".........|.........|.........|###......|...###...|"
            + "......###|.........|.........|.........");
        dueTurned(LEVEL, -2000, true, ".........|.........|.........|......###|...###...|"
            + "###......|.........|.........|.........");
        dueTurned(UPRIGHT, 2000, true, "......#..|......#..|....#....|....#....|....#....|"
            + "....#....|....#....|..#......|..#......");
        dueTurned(UPRIGHT, -2000, true, "..#......|..#......|....#....|....#....|....#....|"
            + "....#....|....#....|......#..|......#..");
        dueTurned(LEVEL, 0, true, LEVEL);
        dueTurned("#.#|.#.", 1, true, "#.#|.#.");
    }

    private static void dueTurned(String picture, int angle, boolean exact, String want) {
        SkewFind x = Check.drawn(picture);
        String name = picture + " turn(" + angle + ", " + exact + ")";
        int on = want.length() - want.replace("#", "").length();
        Check.due(name, on, x.turn(angle, exact));
        Check.due("the picture of " + name, want, Check.pictureOf(x));
        Check.due("told(2) of " + name, on, x.told(2));
        Check.due("told(4) of " + name, exact ? 1 : 0, x.told(4));
    }

    private static void whatLeavesComesInAgain() {
        // Row 0 goes right by 1, so (8, 0) comes to (0, 0); column 0 goes up by 1, row 8 left by 1.
        SkewFind x = Check.dotted(9, 9, 8, 0);
        x.turn(2000, true);
        Check.due("at(8, 8) of one that left thrice", true, x.at(8, 8));
        Check.due("told(2) of one that left thrice", 1, x.told(2));
        x.back();
        Check.due("at(8, 0) of one that came back", true, x.at(8, 0));
        // One column or one row: each sample comes in again at its own place, or only goes along it.
        dueTurned("#|.|#|#|.|.|#|.|.|.|.|.|#", 2000, true, "#|.|#|#|.|.|#|.|.|.|.|.|#");
        dueTurned("#.##..#.....#", 2000, true, "#.##..#.....#");
    }

    private static void exactTurnsComeBack() {
        for (int size = 1; size <= 24; size++) {
            for (int angle = -2000; angle <= 2000; angle += 125) {
                SkewFind x = patterned(size, 1 + (size * 7 + angle + 2000) % 24);
                String before = Check.pictureOf(x);
                x.turn(angle, true);
                x.turn(angle / 2 - 700, true);
                Check.due("the first back()", 1, x.back());
                Check.due("the second back()", 0, x.back());
                Check.due("the third back()", -1, x.back());
                Check.due("the picture " + size + " turned by " + angle + " and back", before, Check.pictureOf(x));
            }
        }
    }

    private static SkewFind patterned(int width, int height) {
        SkewFind x = new SkewFind(width, height);
        for (int row = 0; row < height; row++) {
            for (int column = 0; column < width; column++) {
                if ((row * row + 3 * column * row + column * column * 5) % 7 < 3) {
                    x.put(column, row, 1, true);
                }
            }
        }
        return x;
    }

    private static void backAfterOtherChanges() {
        SkewFind x = Check.drawn(LEVEL);
        x.turn(2000, true);
        x.put(0, 0, 9, true);
        x.put(0, 0, 9, false);
        x.crop(0);
        x.angle(100);
        Check.due("back() after put()", 0, x.back());
        Check.due("the picture of back() after put()", LEVEL, Check.pictureOf(x));
        // What was put on after the turn goes back as well.
        SkewFind late = new SkewFind(9, 9);
        late.turn(2000, true);
        late.put(8, 8, 1, true);
        late.back();
        Check.due("at(8, 0) of a sample put on after the turn", true, late.at(8, 0));
    }

    // 0.34202.. and 0.93969..: on is what comes from row 4, thus -0.5 <= -dx * s + dy * c < 0.5.
    private static void sampledTurn() {
        dueTurned(LEVEL, 2000, false, ".........|.........|.........|###......|...###...|"
            + "......###|.........|.........|.........");
        dueTurned(LEVEL, -2000, false, ".........|.........|.........|......###|...###...|"
            + "###......|.........|.........|.........");
        // The corners come from (5, 5), (-1, ..) and their like, which are not in the picture.
        dueTurned("#####|#####|#####|#####|#####", 2000, false, ".###.|#####|#####|#####|.###.");
        dueTurned("#####|#####|#####|#####|#####", -2000, false, ".###.|#####|#####|#####|.###.");
        dueTurned("#.#|.#.|##.", 0, false, "#.#|.#.|##.");
        dueTurned("#", 2000, false, "#");
        dueTurned("#..|...|...", 2000, false, "#..|...|...");
    }

    // Each of these comes to another place if a term of SINE or COSINE is left out.
    private static void termsOfSineAndCosine() {
        // Row 11 stays, column 23 goes down by WHOLE(11.5 * 0.30436..) = 4, row 15 goes left by 1.
        dueMoved(24, 24, 23, 11, 1772, true, 22, 15);
        dueMoved(24, 17, 8, 3, 1536, false, 9, 2);
        dueMoved(24, 21, 2, 4, 1201, false, 4, 2);
        dueMoved(23, 19, 7, 3, 1279, false, 9, 2);
    }

    private static void dueMoved(int width, int height, int x, int y, int angle, boolean exact, int toX, int toY) {
        SkewFind page = Check.dotted(width, height, x, y);
        page.turn(angle, exact);
        Check.due("(" + x + ", " + y + ") turned by " + angle + " is on (" + toX + ", " + toY + ")",
            true, page.at(toX, toY));
    }

    private static void sixteenTurns() {
        SkewFind x = Check.drawn(LEVEL);
        for (int i = 0; i < 16; i++) {
            x.turn(100 * i - 750, true);
            Check.due("told(4)", i + 1, x.told(4));
        }
        x.angle(100);
        x.crop(1);
        Class<?> noRoom = UnsupportedOperationException.class;
        Check.dueThrow("the 17th turn", noRoom, x, () -> x.turn(100, true));
        Check.dueThrow("the 17th turn, by 0", noRoom, x, () -> x.turn(0, true));
        Check.dueThrow("a wrong angle before no room", IllegalArgumentException.class, x, () -> x.turn(2001, true));
        Check.due("back()", 15, x.back());
        x.turn(-1234, true);
        Check.due("told(4) after back() and a turn", 16, x.told(4));
        for (int left = 15; left >= 0; left--) {
            Check.due("back()", left, x.back());
        }
        Check.due("back() of none", -1, x.back());
        Check.due("the picture after 16 turns back", LEVEL, Check.pictureOf(x));
    }

    private static void whatForgetsTurns() {
        SkewFind x = Check.drawn(LEVEL);
        for (int i = 0; i < 16; i++) {
            x.turn(300, true);
        }
        x.turn(10, false);
        Check.due("told(4) after a turn by sampling", 0, x.told(4));
        String before = Check.stateOf(x);
        Check.due("back() after a turn by sampling", -1, x.back());
        Check.due("the state after back() of none", before, Check.stateOf(x));
        x.turn(300, true);
        Check.due("told(4) after one turn more", 1, x.told(4));
        x.clear();
        Check.due("told(4) after clear()", 0, x.told(4));
        Check.due("back() after clear()", -1, x.back());
    }

    private static void turnsThrow() {
        SkewFind x = Check.drawn(LEVEL);
        x.turn(700, true);
        x.angle(200);
        x.crop(3);
        Class<?> wrong = IllegalArgumentException.class;
        Check.dueThrow("turn(2001, true)", wrong, x, () -> x.turn(2001, true));
        Check.dueThrow("turn(-2001, true)", wrong, x, () -> x.turn(-2001, true));
        Check.dueThrow("turn(2001, false)", wrong, x, () -> x.turn(2001, false));
        Check.dueThrow("turn(-2001, false)", wrong, x, () -> x.turn(-2001, false));
        Check.dueThrow("turn(MIN, false)", wrong, x, () -> x.turn(Integer.MIN_VALUE, false));
        Check.dueThrow("turn(MAX, true)", wrong, x, () -> x.turn(Integer.MAX_VALUE, true));
    }

    private static void turnsOpenTheWindow() {
        SkewFind x = Check.drawn(".........|.........|....#....|.........|.........");
        x.crop(1);
        x.turn(0, true);
        Check.due("size(1) after an exact turn", 0, x.size(1));
        x.crop(0);
        x.back();
        Check.due("size(0) after back()", 0, x.size(0));
        x.crop(2);
        x.back();
        Check.due("size(2) after back() of none", 5, x.size(2));
        x.turn(0, false);
        Check.due("size(2) after a turn by sampling", 9, x.size(2));
    }
}
