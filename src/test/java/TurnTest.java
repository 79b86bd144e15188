/** Promises 8 and 9. */
final class TurnTest {
    private static final String LEVEL = ".........|.........|.........|.........|#########|"
        + ".........|.........|.........|.........";
    private static final String UPRIGHT = "....#....|....#....|....#....|....#....|....#....|"
        + "....#....|....#....|....#....|....#....";

    public static void main(String[] args) {
        exactTurn();
        twoTurnsComeBack();
        backAfterOtherChanges();
        sampledTurn();
        termsOfSineAndCosine();
        Check.end();
    }

    // 9 by 9 at 2000: the rows go by WHOLE((4 - y) * 0.1763..) = 1 1 0 0 0 0 0 -1 -1, twice,
    // the columns by WHOLE((x - 4) * 0.34202..) = -1 -1 -1 0 0 0 1 1 1.
    private static void exactTurn() {
        Check.dueTurned(LEVEL, 2000, true, ".........|.........|.........|###......|...###...|"
            + "......###|.........|.........|.........");
        Check.dueTurned(LEVEL, -2000, true, ".........|.........|.........|......###|...###...|"
            + "###......|.........|.........|.........");
        Check.dueTurned(UPRIGHT, 2000, true, "......#..|......#..|....#....|....#....|....#....|"
            + "....#....|....#....|..#......|..#......");
        Check.dueTurned(UPRIGHT, -2000, true, "..#......|..#......|....#....|....#....|....#....|"
            + "....#....|....#....|......#..|......#..");
        Check.dueTurned(LEVEL, 0, true, LEVEL);
        Check.dueTurned("#.#|.#.", 1, true, "#.#|.#.");
    }

    private static void twoTurnsComeBack() {
        for (int size = 1; size <= 24; size++) {
            for (int angle = -2000; angle <= 2000; angle += 125) {
                SkewFind x = Check.patterned(size, 1 + (size * 7 + angle + 2000) % 24);
                String before = Check.pictureOf(x);
                x.turn(angle, true);
                x.turn(angle / 2 - 700, true);
                Check.due("the first back()", 1, x.back());
                Check.due("the second back()", 0, x.back());
                Check.due("the third back()", -1, x.back());
                Check.due("the picture " + size + " turned by " + angle + " and back", before, Check.pictureOf(x));
            }
        }
    }

    private static void backAfterOtherChanges() {
        SkewFind x = Check.drawn(LEVEL);
        x.turn(2000, true);
        // Row 8 goes left by 1, column 8 down by 1: what is put on after the turn goes back as well.
        x.put(8, 8, 1, true);
        Check.due("back()", 0, x.back());
        Check.due("at(8, 0) of a sample put on after the turn", true, x.at(8, 0));
        x.put(8, 0, 1, false);
        Check.due("the picture of the others", LEVEL, Check.pictureOf(x));
    }

    // 0.34202.. and 0.93969..: on is what comes from row 4, thus -0.5 <= -dx * s + dy * c < 0.5.
    private static void sampledTurn() {
        Check.dueTurned(LEVEL, 2000, false, ".........|.........|.........|###......|...###...|"
            + "......###|.........|.........|.........");
        Check.dueTurned(LEVEL, -2000, false, ".........|.........|.........|......###|...###...|"
            + "###......|.........|.........|.........");
        Check.dueTurned("#.#|.#.|##.", 0, false, "#.#|.#.|##.");
        Check.dueTurned("#..|...|...", 2000, false, "#..|...|...");
    }

    // Each of these comes to another place if a term of SINE or COSINE is left out.
    private static void termsOfSineAndCosine() {
        // Row 11 stays, column 23 goes down by WHOLE(11.5 * 0.30436..) = 4, row 15 goes left by 1.
        Check.dueMoved(24, 24, Check.place(23, 11), 1772, true, Check.place(22, 15));
        Check.dueMoved(24, 17, Check.place(8, 3), 1536, false, Check.place(9, 2));
        Check.dueMoved(24, 21, Check.place(2, 4), 1201, false, Check.place(4, 2));
        Check.dueMoved(23, 19, Check.place(7, 3), 1279, false, Check.place(9, 2));
    }
}
