import java.util.ArrayDeque;
import java.util.ArrayList;
import java.util.Deque;
import java.util.HashMap;
import java.util.List;
import java.util.Map;
import java.util.TreeMap;

/** The document once more, in another way: samples as booleans, each answer reckoned anew and without care for cost. */
final class PlainSkew {
    private final int width;
    private final int height;
    private boolean[][] on;
    private int[] window;
    private final Deque<Integer> turns = new ArrayDeque<>();
    private Boolean sure = null;
    private double mean = 0.0;

    PlainSkew(int askedWidth, int askedHeight) {
        width = askedWidth < 1 ? 1 : askedWidth > 24 ? 24 : askedWidth;
        height = askedHeight < 1 ? 1 : askedHeight > 24 ? 24 : askedHeight;
        on = new boolean[width][height];
        changed();
    }

    private void changed() {
        window = new int[] {0, 0, width, height};
        sure = null;
    }

    private boolean there(long x, long y) {
        return 0 <= x && x < width && 0 <= y && y < height;
    }

    int put(int x, int y, int n, boolean state) {
        if (!there(x, y)) {
            throw new IndexOutOfBoundsException();
        }
        if (n < 1) {
            throw new IllegalArgumentException();
        }
        int count = 0;
        for (long column = x; column < (long) x + n && column < width; column++) {
            if (on[(int) column][y] != state) {
                on[(int) column][y] = state;
                count++;
            }
        }
        if (count > 0) {
            changed();
        }
        return count;
    }

    boolean at(int x, int y) {
        if (!there(x, y)) {
            throw new IndexOutOfBoundsException();
        }
        return on[x][y];
    }

    private static double slope(double a) {
        double r = a * 3.141592653589793 / 18000.0;
        double q = r * r;
        return r * (1.0 + q * (1.0 / 3.0 + q * (2.0 / 15.0 + q * (17.0 / 315.0))));
    }

    private static double sine(double a) {
        double r = a * 3.141592653589793 / 18000.0;
        double q = r * r;
        return r * (1.0 + q * (-1.0 / 6.0 + q * (1.0 / 120.0 + q * (-1.0 / 5040.0))));
    }

    private static double cosine(double a) {
        double r = a * 3.141592653589793 / 18000.0;
        double q = r * r;
        return 1.0 + q * (-1.0 / 2.0 + q * (1.0 / 24.0 + q * (-1.0 / 720.0)));
    }

    private static long whole(double v) {
        return (long) Math.floor(v + 0.5);
    }

    private static void refuseBeyond(int v, int least, int most) {
        if (v < least || v > most) {
            throw new IllegalArgumentException();
        }
    }

    double sum(int angle) {
        refuseBeyond(angle, -2000, 2000);
        Map<Long, Long> lines = new HashMap<>();
        long ends = 0;
        for (int x = 0; x < width; x++) {
            for (int y = 0; y < height; y++) {
                if (on[x][y] && !(there(x + 1, y) && on[x + 1][y])) {
                    lines.merge(whole(y - x * slope(angle)), 1L, Long::sum);
                    ends++;
                }
            }
        }
        long squares = 0;
        for (long count : lines.values()) {
            squares += count * count;
        }
        return ends == 0 ? 0.0 : (double) squares / ends;
    }

    int angle(int most) {
        refuseBeyond(most, 0, 2000);
        mean = 0.0;
        sure = false;
        if (told(2) == 0) {
            return 100000;
        }
        List<Integer> tries = new ArrayList<>();
        double total = 0.0;
        for (int a = -most; a <= most; a += 100) {
            tries.add(a);
            total = total + sum(a);
        }
        mean = total / tries.size();
        int best = greatest(tries);
        for (int step : new int[] {50, 25, 12, 6, 3, 1}) {
            tries.clear();
            for (int a : new int[] {best - step, best, best + step}) {
                if (-most <= a && a <= most) {
                    tries.add(a);
                }
            }
            best = greatest(tries);
        }
        sure = !(sum(best) < 1.25 * mean);
        return best;
    }

    private int greatest(List<Integer> tries) {
        TreeMap<Double, Integer> leastOfSum = new TreeMap<>();
        for (int a : tries) {
            leastOfSum.merge(sum(a), a, Math::min);
        }
        return leastOfSum.lastEntry().getValue();
    }

    boolean sure() {
        if (sure == null) {
            throw new IllegalStateException();
        }
        return sure;
    }

    double mean() {
        if (sure == null) {
            throw new IllegalStateException();
        }
        return mean;
    }

    int turn(int angle, boolean exact) {
        refuseBeyond(angle, -2000, 2000);
        if (exact && turns.size() == 16) {
            throw new UnsupportedOperationException();
        }
        if (exact) {
            turns.push(angle);
            shearLevel(slope(angle / 2.0), false);
            shearUpright(sine(angle), false);
            shearLevel(slope(angle / 2.0), false);
        } else {
            turns.clear();
            on = sampled(sine(angle), cosine(angle));
        }
        changed();
        return told(2);
    }

    int back() {
        if (turns.isEmpty()) {
            return -1;
        }
        int angle = turns.pop();
        shearLevel(slope(angle / 2.0), true);
        shearUpright(sine(angle), true);
        shearLevel(slope(angle / 2.0), true);
        changed();
        return turns.size();
    }

    private void shearLevel(double t, boolean back) {
        boolean[][] moved = new boolean[width][height];
        for (int x = 0; x < width; x++) {
            for (int y = 0; y < height; y++) {
                long by = whole(((height - 1) / 2.0 - y) * t);
                moved[(int) Math.floorMod(back ? x - by : x + by, (long) width)][y] = on[x][y];
            }
        }
        on = moved;
    }

    private void shearUpright(double s, boolean back) {
        boolean[][] moved = new boolean[width][height];
        for (int x = 0; x < width; x++) {
            for (int y = 0; y < height; y++) {
                long by = whole((x - (width - 1) / 2.0) * s);
                moved[x][(int) Math.floorMod(back ? y - by : y + by, (long) height)] = on[x][y];
            }
        }
        on = moved;
    }

    private boolean[][] sampled(double s, double c) {
        double cx = (width - 1) / 2.0;
        double cy = (height - 1) / 2.0;
        boolean[][] made = new boolean[width][height];
        for (int x = 0; x < width; x++) {
            for (int y = 0; y < height; y++) {
                long fromX = whole(cx + (x - cx) * c + (y - cy) * s);
                long fromY = whole(cy - (x - cx) * s + (y - cy) * c);
                made[x][y] = there(fromX, fromY) && on[(int) fromX][(int) fromY];
            }
        }
        return made;
    }

    private boolean lineIsOff(int side, int place) {
        int length = side % 2 == 0 ? height : width;
        for (int i = 0; i < length; i++) {
            if (side % 2 == 0 ? on[place][i] : on[i][place]) {
                return false;
            }
        }
        return true;
    }

    int crop(int side) {
        int end = size(side);
        if (told(2) == 0) {
            return 0;
        }
        while (lineIsOff(side, side < 2 ? window[side] : window[side] - 1)) {
            window[side] += side < 2 ? 1 : -1;
        }
        return Math.abs(window[side] - end);
    }

    int size(int side) {
        if (side < 0 || side > 3) {
            throw new IndexOutOfBoundsException();
        }
        return window[side];
    }

    private List<int[]> allBands() {
        List<int[]> all = new ArrayList<>();
        int first = -1;
        for (int y = 0; y <= height; y++) {
            boolean used = y < height && !lineIsOff(1, y);
            if (used && first < 0) {
                first = y;
            } else if (!used && first >= 0) {
                all.add(new int[] {first, y});
                first = -1;
            }
        }
        return all;
    }

    private int onInRow(int y) {
        int count = 0;
        for (int x = 0; x < width; x++) {
            count += on[x][y] ? 1 : 0;
        }
        return count;
    }

    int bands() {
        return allBands().size();
    }

    private int[] bandOf(int k) {
        List<int[]> all = allBands();
        if (k < 0 || k >= all.size()) {
            throw new IndexOutOfBoundsException();
        }
        return all.get(k);
    }

    int band(int k, int what) {
        int[] rows = bandOf(k);
        int count = 0;
        for (int y = rows[0]; y < rows[1]; y++) {
            count += onInRow(y);
        }
        return what == 0 ? rows[0] : what == 1 ? rows[1] - rows[0] : what == 2 ? count : -1;
    }

    int line(int k, double v) {
        int[] rows = bandOf(k);
        if (Double.isNaN(v) || v < -1000.0 || v > 1000.0) {
            throw new IllegalArgumentException();
        }
        long n = 0;
        long sx = 0;
        long sy = 0;
        long sxx = 0;
        long sxy = 0;
        for (int x = 0; x < width; x++) {
            int lowest = -1;
            for (int y = rows[0]; y < rows[1]; y++) {
                lowest = on[x][y] ? y : lowest;
            }
            if (lowest >= 0) {
                n++;
                sx += x;
                sy += lowest;
                sxx += x * x;
                sxy += x * lowest;
            }
        }
        long d = n * sxx - sx * sx;
        double g = d == 0 ? 0.0 : (double) (n * sxy - sx * sy) / d;
        double value = d == 0 ? (double) sy / n : g * v + (sy - g * sx) / n;
        return (int) whole(16.0 * value);
    }

    boolean upside() {
        int upper = 0;
        int lower = 0;
        for (int[] rows : allBands()) {
            for (int y = rows[0]; y < rows[1]; y++) {
                int fromTop = y - rows[0];
                int fromEnd = rows[1] - 1 - y;
                upper += fromTop < fromEnd ? onInRow(y) : 0;
                lower += fromTop > fromEnd ? onInRow(y) : 0;
            }
        }
        return lower > upper;
    }

    int told(int what) {
        int samples = 0;
        int ends = 0;
        for (int x = 0; x < width; x++) {
            for (int y = 0; y < height; y++) {
                samples += on[x][y] ? 1 : 0;
                ends += on[x][y] && (x + 1 == width || !on[x + 1][y]) ? 1 : 0;
            }
        }
        int[] answers = {width, height, samples, ends, turns.size()};
        return what >= 0 && what < answers.length ? answers[what] : -1;
    }

    void clear() {
        on = new boolean[width][height];
        turns.clear();
        changed();
    }
}
