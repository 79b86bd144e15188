/** Promise 1. */
final class NewObjectTest {
    public static void main(String[] args) {
        dueMade(5, 4, 5, 4);
        dueMade(1, 1, 1, 1);
        dueMade(24, 24, 24, 24);
        dueMade(0, 25, 1, 24);
        Check.end();
    }

    private static void dueMade(int askedWidth, int askedHeight, int width, int height) {
        String name = "new SkewFind(" + askedWidth + ", " + askedHeight + ")";
        SkewFind x = new SkewFind(askedWidth, askedHeight);
        Check.due(name + " told(0)", width, x.told(0));
        Check.due(name + " told(1)", height, x.told(1));
        for (int what = 2; what < 5; what++) {
            Check.due(name + " told(" + what + ")", 0, x.told(what));
        }
        Check.due(name + " size(0)", 0, x.size(0));
        Check.due(name + " size(1)", 0, x.size(1));
        Check.due(name + " size(2)", width, x.size(2));
        Check.due(name + " size(3)", height, x.size(3));
        Check.due(name + " has something on", false, Check.pictureOf(x).contains("#"));
        Check.due(name + " back()", -1, x.back());
        Check.due(name + " bands()", 0, x.bands());
        Check.dueThrow(name + " sure()", IllegalStateException.class, x, x::sure);
        Check.dueThrow(name + " mean()", IllegalStateException.class, x, x::mean);
    }
}
