/** What the tests share: it prints each call whose answer is not the one that is due, and counts them. */
final class Check {
    private static int wrong = 0;
    private static int done = 0;
    private static int sentences = 0;
    private static String sentence = "";

    interface Call {
        Object answer();
    }

    interface Checks {
        void make();
    }

    interface Step {
        void doTo(SkewFind x);
    }

    /** A sentence of the document, the promise that it bears on, and checks that fail if it alone is broken. */
    static void sentence(String promise, String words, Checks checks) {
        int before = done;
        sentence = promise + ", \"" + words + "\": ";
        sentences++;
        try {
            checks.make();
            if (done == before) {
                fail("nothing was checked");
            }
        } catch (RuntimeException e) {
            // A call that may not throw here; the other sentences are to be checked all the same.
            fail("a call threw " + e);
        }
        sentence = "";
    }

    static void due(String call, Object want, Object got) {
        done++;
        if (!want.equals(got)) {
            fail(call + " answered " + got + ", due is " + want);
        }
    }

    private static void fail(String what) {
        wrong++;
        System.out.println(sentence + what);
    }

    /** The answer of a call, or the name of the exception that it throws. */
    static Object answerOf(Call call) {
        try {
            return call.answer();
        } catch (RuntimeException e) {
            return "throws." + e.getClass().getSimpleName();
        }
    }

    /** The call throws just this exception, and the object is as it was before. */
    static void dueThrow(String name, Class<?> want, SkewFind x, Call call) {
        String before = stateOf(x);
        due(name, "throws." + want.getSimpleName(), answerOf(call));
        due("the state after " + name, before, stateOf(x));
    }

    /** All that the object tells of itself by calls that change nothing. */
    static String stateOf(SkewFind x) {
        StringBuilder text = new StringBuilder(pictureOf(x));
        for (int side = 0; side < 4; side++) {
            text.append(' ').append(x.size(side));
        }
        for (int what = 0; what < 5; what++) {
            text.append(' ').append(x.told(what));
        }
        text.append(' ').append(answerOf(x::sure)).append(' ').append(answerOf(x::mean));
        return text.toString();
    }

    /** The samples, # for one that is on, the rows parted by strokes. */
    static String pictureOf(SkewFind x) {
        StringBuilder text = new StringBuilder();
        for (int row = 0; row < x.told(1); row++) {
            text.append(row == 0 ? "" : "|");
            for (int column = 0; column < x.told(0); column++) {
                text.append(x.at(column, row) ? '#' : '.');
            }
        }
        return text.toString();
    }

    /** An object with this picture, written as pictureOf() writes it. */
    static SkewFind drawn(String picture) {
        String[] rows = picture.split("\\|");
        SkewFind x = new SkewFind(rows[0].length(), rows.length);
        for (int row = 0; row < rows.length; row++) {
            for (int column = 0; column < rows[row].length(); column++) {
                if (rows[row].charAt(column) == '#') {
                    x.put(column, row, 1, true);
                }
            }
        }
        return x;
    }

    /** An object with these samples on, each given by its column and its row. */
    static SkewFind dotted(int width, int height, int... places) {
        SkewFind x = new SkewFind(width, height);
        for (int i = 0; i + 1 < places.length; i += 2) {
            x.put(places[i], places[i + 1], 1, true);
        }
        return x;
    }

    /** An object with some of its samples on, in no regular way. */
    static SkewFind patterned(int width, int height) {
        SkewFind x = new SkewFind(width, height);
        for (int row = 0; row < height; row++) {
            for (int column = 0; column < width; column++) {
                if ((row * row + 3 * column * row + column * column * 5) % 7 < 3) {
                    x.put(column, row, 1, true);
                }
            }
        }
        return x;
    }

    static void dueSizes(String name, SkewFind x, int... want) {
        for (int side = 0; side < 4; side++) {
            due(name + " size(" + side + ")", want[side], x.size(side));
        }
    }

    static void dueTurned(String picture, int angle, boolean exact, String want) {
        SkewFind x = drawn(picture);
        String name = picture + " turn(" + angle + ", " + exact + ")";
        int on = want.length() - want.replace("#", "").length();
        due(name, on, x.turn(angle, exact));
        due("the picture of " + name, want, pictureOf(x));
        due("told(2) of " + name, on, x.told(2));
        due("told(4) of " + name, exact ? 1 : 0, x.told(4));
    }

    /** One sample on, which the turn brings to another place (and, if it is exact, back() to its own). */
    static void dueMoved(int width, int height, int[] from, int angle, boolean exact, int[] to) {
        SkewFind x = dotted(width, height, from[0], from[1]);
        String name = width + " by " + height + ", (" + from[0] + ", " + from[1] + ") turned by " + angle;
        due("at() of " + name, true, x.turn(angle, exact) > 0 && x.at(to[0], to[1]));
        if (exact) {
            x.back();
            due("at() of " + name + " and back", true, x.at(from[0], from[1]));
        }
    }

    static int[] place(int x, int y) {
        return new int[] {x, y};
    }

    static void end() {
        String of = sentences == 0 ? "" : " of " + sentences + " sentences";
        System.out.println(done + " checks" + of + ", " + wrong + " wrong");
        if (wrong != 0) {
            System.exit(1);
        }
    }
}
