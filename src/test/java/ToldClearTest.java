/** Promises 16 and 17. */
final class ToldClearTest {
    public static void main(String[] args) {
        allThatIsTold();
        runEnds();
        clearEverything();
        Check.end();
    }

    private static void allThatIsTold() {
        SkewFind x = Check.drawn("##.#.|.....|#####");
        int[] want = {5, 3, 8, 3, 0};
        for (int what = 0; what < 5; what++) {
            Check.due("told(" + what + ")", want[what], x.told(what));
        }
        for (int what : new int[] {-1, 5, Integer.MIN_VALUE, Integer.MAX_VALUE}) {
            Check.due("told(" + what + ")", -1, x.told(what));
        }
        x.turn(400, true);
        x.turn(-400, true);
        Check.due("told(4) after two turns", 2, x.told(4));
        x.back();
        Check.due("told(4) after one back", 1, x.told(4));
    }

    private static void runEnds() {
        Check.due("an end before a gap", 2, Check.drawn("##.##").told(3));
        Check.due("an end at the border", 1, Check.drawn("..###").told(3));
        Check.due("no run goes on in the next row", 2, Check.drawn("..#|##.").told(3));
        SkewFind x = new SkewFind(24, 24);
        for (int row = 0; row < 24; row++) {
            for (int column = row % 2; column < 24; column += 2) {
                x.put(column, row, 1, true);
            }
        }
        Check.due("as many ends as may be", 288, x.told(3));
        Check.due("samples on", 288, x.told(2));
        x.put(0, 0, 24, true);
        Check.due("ends after a whole row", 277, x.told(3));
    }

    private static void clearEverything() {
        SkewFind x = Check.drawn(".....|.##..|...#.|.....");
        x.turn(1000, true);
        x.crop(0);
        x.crop(1);
        x.crop(2);
        x.crop(3);
        x.angle(1000);
        x.clear();
        Check.due("the state after clear()", Check.stateOf(new SkewFind(5, 4)), Check.stateOf(x));
        Check.due("back() after clear()", -1, x.back());
        Check.due("bands() after clear()", 0, x.bands());
        Check.due("upside() after clear()", false, x.upside());
        Check.due("sum(0) after clear()", 0.0, x.sum(0));
        Check.due("put() after clear()", 5, x.put(0, 3, 9, true));
        x.clear();
        x.clear();
        Check.due("the state after clear() twice", Check.stateOf(new SkewFind(5, 4)), Check.stateOf(x));
        SkewFind cropped = Check.drawn("..#|...");
        cropped.crop(0);
        cropped.crop(3);
        cropped.clear();
        Check.due("the window after clear()", Check.stateOf(new SkewFind(3, 2)), Check.stateOf(cropped));
    }
}
