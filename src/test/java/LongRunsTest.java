/** All promises together: long runs of mixed calls, each answer beside that of PlainSkew. */
final class LongRunsTest {
    private static final int RUNS = 300;
    private static final int CALLS = 512;

    // A fixed row of numbers, so that each time the same runs are made.
    private long seed;
    private SkewFind tried;
    private PlainSkew plain;

    public static void main(String[] args) {
        for (int run = 0; run < RUNS; run++) {
            new LongRunsTest().run(run);
        }
        Check.end();
    }

    private int below(int bound) {
        seed = seed * 6364136223846793005L + 1442695040888963407L;
        return (int) ((seed >>> 33) % bound);
    }

    private int from(int least, int most) {
        return least + below(most - least + 1);
    }

    private int sometimesWild(int usual) {
        int[] wild = {Integer.MIN_VALUE, Integer.MAX_VALUE, -1, 0, 24, 31, 32, 33, -2001, 2001};
        return below(40) == 0 ? wild[below(wild.length)] : usual;
    }

    private void run(int run) {
        seed = run * 7919L + 17L;
        int width = sometimesWild(run % 3 == 0 ? 24 : from(1, 25));
        int height = sometimesWild(run % 3 == 0 ? 24 : from(1, 25));
        tried = new SkewFind(width, height);
        plain = new PlainSkew(width, height);
        int calls = 0;
        for (int i = run % 5 * 12; i > 0; i--) {
            onePut(run);
            calls++;
        }
        for (; calls < CALLS; calls++) {
            oneCall(run);
        }
        compareAll(run);
    }

    private void due(String call, Check.Call want, Check.Call got) {
        Check.due(call, Check.answerOf(want), Check.answerOf(got));
    }

    private void onePut(int run) {
        int x = sometimesWild(from(0, plain.told(0) - 1));
        int y = sometimesWild(from(0, plain.told(1) - 1));
        int n = sometimesWild(from(1, 1 + below(12)));
        boolean on = below(4) != 0;
        due("run " + run + ": put(" + x + ", " + y + ", " + n + ", " + on + ")",
            () -> plain.put(x, y, n, on), () -> tried.put(x, y, n, on));
    }

    private void oneCall(int run) {
        int kind = below(40);
        if (kind < 14) {
            onePut(run);
        } else if (kind < 18) {
            oneSearch(run);
        } else if (kind < 24) {
            oneTurn(run);
        } else if (kind < 30) {
            oneOfTheWindow(run);
        } else if (kind < 38) {
            oneOfTheBands(run);
        } else if (kind < 39 && below(6) == 0) {
            plain.clear();
            tried.clear();
        } else {
            compareAll(run);
        }
    }

    private void oneSearch(int run) {
        int most = sometimesWild(below(3) == 0 ? from(0, 300) : from(0, 2000));
        int angle = sometimesWild(from(-2000, 2000));
        due("run " + run + ": angle(" + most + ")", () -> plain.angle(most), () -> tried.angle(most));
        due("run " + run + ": sum(" + angle + ")", () -> plain.sum(angle), () -> tried.sum(angle));
    }

    private void oneTurn(int run) {
        int angle = sometimesWild(from(-2000, 2000));
        boolean exact = below(16) != 0;
        if (below(5) == 0) {
            due("run " + run + ": back()", plain::back, tried::back);
        } else {
            due("run " + run + ": turn(" + angle + ", " + exact + ")",
                () -> plain.turn(angle, exact), () -> tried.turn(angle, exact));
        }
    }

    private void oneOfTheWindow(int run) {
        int side = sometimesWild(from(0, 3));
        due("run " + run + ": crop(" + side + ")", () -> plain.crop(side), () -> tried.crop(side));
        due("run " + run + ": size(" + side + ")", () -> plain.size(side), () -> tried.size(side));
    }

    private void oneOfTheBands(int run) {
        int k = sometimesWild(from(0, Math.max(0, plain.bands() - 1)));
        int what = sometimesWild(from(-1, 3));
        double v = below(30) == 0 ? Double.NaN : from(-16100, 16100) / (below(2) == 0 ? 16.0 : 300.0);
        due("run " + run + ": band(" + k + ", " + what + ")", () -> plain.band(k, what), () -> tried.band(k, what));
        due("run " + run + ": line(" + k + ", " + v + ")", () -> plain.line(k, v), () -> tried.line(k, v));
        due("run " + run + ": upside()", plain::upside, tried::upside);
    }

    private void compareAll(int run) {
        String name = "run " + run + ": ";
        for (int i = -1; i < 6; i++) {
            int what = i;
            due(name + "told(" + what + ")", () -> plain.told(what), () -> tried.told(what));
            due(name + "size(" + what + ")", () -> plain.size(what), () -> tried.size(what));
        }
        due(name + "sure()", plain::sure, tried::sure);
        due(name + "mean()", plain::mean, tried::mean);
        due(name + "bands()", plain::bands, tried::bands);
        for (int i = -1; i <= plain.told(0); i++) {
            int x = i;
            for (int j = -1; j <= plain.told(1); j++) {
                int y = j;
                due(name + "at(" + x + ", " + y + ")", () -> plain.at(x, y), () -> tried.at(x, y));
            }
        }
    }
}
