/** Finds by how much a scanned page is skewed, turns it, crops it, and reads its bands of rows. */
public final class SkewFind {
    public static final int NONE = -1;

    private static final int LONGEST_SIDE = 24;
    private static final int WIDEST_ANGLE = 2000;
    private static final int NO_ANGLE = 100000;
    private static final int MOST_TURNS = 16;

    private static final int LEFT = 0;
    private static final int UPPER = 1;
    private static final int RIGHT = 2;
    private static final int LOWER = 3;

    private final Picture picture;
    private final Window window;
    private final Search search;
    private final Rows rows;
    private final int[] turns = new int[MOST_TURNS];
    private int turnCount = 0;

    public SkewFind(int width, int height) {
        picture = new Picture(nearestSide(width), nearestSide(height));
        window = new Window(picture);
        search = new Search(picture);
        rows = new Rows(picture);
    }

    public int put(int x, int y, int n, boolean on)
            throws IndexOutOfBoundsException, IllegalArgumentException {
        checkSample(x, y);
        if (n < 1) {
            throw new IllegalArgumentException("n is below 1");
        }
        int changed = picture.fill(x, y, n, on);
        if (changed > 0) {
            noteChange();
        }
        return changed;
    }

    public boolean at(int x, int y) throws IndexOutOfBoundsException {
        checkSample(x, y);
        return picture.isOn(x, y);
    }

    public double sum(int angle) throws IllegalArgumentException {
        checkAngle(angle);
        return search.sumAt(angle);
    }

    public int angle(int most) throws IllegalArgumentException {
        if (most < 0 || most > WIDEST_ANGLE) {
            throw new IllegalArgumentException("the bound is not 0 .. 2000");
        }
        return search.find(most);
    }

    public boolean sure() throws IllegalStateException {
        checkAsked();
        return search.isSure();
    }

    public double mean() throws IllegalStateException {
        checkAsked();
        return search.meanOfGrid();
    }

    public int turn(int angle, boolean exact)
            throws IllegalArgumentException, UnsupportedOperationException {
        checkAngle(angle);
        if (!exact) {
            turnCount = 0;
            picture.turnBySampling(angle);
        } else if (turnCount >= 0 && turnCount < turns.length) {
            turns[turnCount] = angle;
            turnCount++;
            picture.turnByShears(angle);
        } else {
            throw new UnsupportedOperationException("16 turns can go back");
        }
        noteChange();
        return picture.samplesOn();
    }

    public int back() {
        int latest = turnCount - 1;
        if (latest < 0 || latest >= turns.length) {
            return NONE;
        }
        picture.turnBackByShears(turns[latest]);
        turnCount = latest;
        noteChange();
        return turnCount;
    }

    public int crop(int side) throws IndexOutOfBoundsException {
        checkSide(side);
        return window.cropAt(side);
    }

    public int size(int side) throws IndexOutOfBoundsException {
        checkSide(side);
        return window.end(side);
    }

    public int bands() {
        return rows.bandCount();
    }

    public int band(int k, int what) throws IndexOutOfBoundsException {
        checkBand(k);
        int first = rows.firstOfBand(k);
        int behind = rows.behindBand(first);
        switch (what) {
            case 0:
                return first;
            case 1:
                return behind - first;
            case 2:
                return rows.samplesBetween(first, behind);
            default:
                return NONE;
        }
    }

    public int line(int k, double v) throws IndexOutOfBoundsException, IllegalArgumentException {
        checkBand(k);
        // Asked this way round, a v that is no number is refused too.
        if (!(v >= -1000.0 && v <= 1000.0)) {
            throw new IllegalArgumentException("v is not -1000.0 .. 1000.0");
        }
        return Reckon.whole(16.0 * rows.baseLineAt(rows.firstOfBand(k), v));
    }

    public boolean upside() {
        return rows.lowerMinusUpper() > 0;
    }

    public int told(int what) {
        switch (what) {
            case 0:
                return picture.width;
            case 1:
                return picture.height;
            case 2:
                return picture.samplesOn();
            case 3:
                return picture.runEnds();
            case 4:
                return turnCount;
            default:
                return NONE;
        }
    }

    public void clear() {
        picture.wipe();
        turnCount = 0;
        noteChange();
    }

    private static int nearestSide(int side) {
        return Math.max(1, Math.min(LONGEST_SIDE, side));
    }

    private void noteChange() {
        window.open();
        search.forget();
    }

    private void checkSample(int x, int y) throws IndexOutOfBoundsException {
        if (!picture.has(x, y)) {
            throw new IndexOutOfBoundsException("no such sample");
        }
    }

    private static void checkSide(int side) throws IndexOutOfBoundsException {
        if (side < LEFT || side > LOWER) {
            throw new IndexOutOfBoundsException("no such side");
        }
    }

    private void checkBand(int k) throws IndexOutOfBoundsException {
        if (k < 0 || k >= rows.bandCount()) {
            throw new IndexOutOfBoundsException("no such band");
        }
    }

    private static void checkAngle(int angle) throws IllegalArgumentException {
        if (angle < -WIDEST_ANGLE || angle > WIDEST_ANGLE) {
            throw new IllegalArgumentException("the angle is not -2000 .. 2000");
        }
    }

    private void checkAsked() throws IllegalStateException {
        if (!search.isAsked()) {
            throw new IllegalStateException("the best angle was not asked for");
        }
    }

    /** The document's functions of numbers, in its own order of operations. */
    private static final class Reckon {
        static double radians(double angle) {
            return angle * 3.141592653589793 / 18000.0;
        }

        static double slope(double angle) {
            double r = radians(angle);
            double q = r * r;
            return r * (1.0 + q * (1.0 / 3.0 + q * (2.0 / 15.0 + q * (17.0 / 315.0))));
        }

        static double sine(double angle) {
            double r = radians(angle);
            double q = r * r;
            return r * (1.0 + q * (-1.0 / 6.0 + q * (1.0 / 120.0 + q * (-1.0 / 5040.0))));
        }

        static double cosine(double angle) {
            double r = radians(angle);
            double q = r * r;
            return 1.0 + q * (-1.0 / 2.0 + q * (1.0 / 24.0 + q * (-1.0 / 720.0)));
        }

        static int whole(double v) {
            double raised = v + 0.5;
            int cut = (int) raised;
            // A cast goes towards 0, which is one too high below it.
            return (double) cut > raised ? cut - 1 : cut;
        }

        static int wrapped(int place, int length) {
            return length < 1 ? 0 : Math.floorMod(place, length);
        }
    }

    /** The samples: a whole number for each row, whose bit x is the sample of column x. */
    private static final class Picture {
        final int width;
        final int height;
        private final double middleX;
        private final double middleY;
        private final int[] bits;
        private final int[] oldBits;

        Picture(int width, int height) {
            this.width = width;
            this.height = height;
            middleX = (width - 1) / 2.0;
            middleY = (height - 1) / 2.0;
            bits = new int[LONGEST_SIDE];
            oldBits = new int[LONGEST_SIDE];
        }

        boolean has(int x, int y) {
            return x >= 0 && x < width && y >= 0 && y < height;
        }

        boolean isOn(int x, int y) {
            return has(x, y) && (rowBits(y) >>> x & 1) != 0;
        }

        int rowBits(int y) {
            return y >= 0 && y < bits.length ? bits[y] : 0;
        }

        private void setRowBits(int y, int row) {
            if (y >= 0 && y < bits.length) {
                bits[y] = row;
            }
        }

        private int oldRowBits(int y) {
            return y >= 0 && y < oldBits.length ? oldBits[y] : 0;
        }

        int fill(int x, int y, int n, boolean on) {
            if (!has(x, y) || n < 1) {
                return 0;
            }
            int reached = bitsOf(Math.min(n, width - x)) << x;
            int before = rowBits(y);
            int after = on ? before | reached : before & ~reached;
            setRowBits(y, after);
            return Integer.bitCount(before ^ after);
        }

        void wipe() {
            for (int y = 0; y < height; y++) {
                setRowBits(y, 0);
            }
        }

        int samplesOn() {
            int count = 0;
            for (int y = 0; y < height; y++) {
                count += Integer.bitCount(rowBits(y));
            }
            return count;
        }

        int runEndBits(int y) {
            int row = rowBits(y);
            return row & ~(row >>> 1);
        }

        int runEnds() {
            int count = 0;
            for (int y = 0; y < height; y++) {
                count += Integer.bitCount(runEndBits(y));
            }
            return count;
        }

        void turnByShears(int angle) {
            shearAll(angle, 1);
        }

        /** The middle one of the three shears stands between two equal ones, so the other order is the same. */
        void turnBackByShears(int angle) {
            shearAll(angle, -1);
        }

        private void shearAll(int angle, int direction) {
            double t = Reckon.slope(angle / 2.0);
            double s = Reckon.sine(angle);
            shearRows(t, direction);
            shearColumns(s, direction);
            shearRows(t, direction);
        }

        private void shearRows(double t, int direction) {
            for (int y = 0; y < height; y++) {
                int right = direction * Reckon.whole((middleY - y) * t);
                setRowBits(y, movedRight(rowBits(y), right));
            }
        }

        private int movedRight(int row, int by) {
            int right = Reckon.wrapped(by, width);
            return (row << right | row >>> width - right) & bitsOf(width);
        }

        private void shearColumns(double s, int direction) {
            keepOldBits();
            wipe();
            for (int x = 0; x < width; x++) {
                int down = direction * Reckon.whole((x - middleX) * s);
                for (int y = 0; y < height; y++) {
                    int to = Reckon.wrapped(y + down, height);
                    setRowBits(to, rowBits(to) | oldRowBits(y) & 1 << x);
                }
            }
        }

        void turnBySampling(int angle) {
            double s = Reckon.sine(angle);
            double c = Reckon.cosine(angle);
            keepOldBits();
            for (int y = 0; y < height; y++) {
                setRowBits(y, sampledRow(y, s, c));
            }
        }

        private int sampledRow(int y, double s, double c) {
            int row = 0;
            for (int x = 0; x < width; x++) {
                int fromX = Reckon.whole(middleX + (x - middleX) * c + (y - middleY) * s);
                int fromY = Reckon.whole(middleY - (x - middleX) * s + (y - middleY) * c);
                if (has(fromX, fromY) && (oldRowBits(fromY) >>> fromX & 1) != 0) {
                    row |= 1 << x;
                }
            }
            return row;
        }

        private void keepOldBits() {
            for (int y = 0; y < oldBits.length; y++) {
                oldBits[y] = rowBits(y);
            }
        }

        private static int bitsOf(int columns) {
            return (1 << columns) - 1;
        }
    }

    /** The part of the picture that is left after borders were cropped; all that is on lies in it. */
    private static final class Window {
        private final Picture picture;
        private int left;
        private int upper;
        private int right;
        private int lower;

        Window(Picture picture) {
            this.picture = picture;
            open();
        }

        void open() {
            left = 0;
            upper = 0;
            right = picture.width;
            lower = picture.height;
        }

        int end(int side) {
            switch (side) {
                case LEFT:
                    return left;
                case UPPER:
                    return upper;
                case RIGHT:
                    return right;
                default:
                    return lower;
            }
        }

        int cropAt(int side) {
            if (picture.samplesOn() == 0) {
                return 0;
            }
            int before = end(side);
            switch (side) {
                case LEFT:
                    cropLeft();
                    break;
                case UPPER:
                    cropUpper();
                    break;
                case RIGHT:
                    cropRight();
                    break;
                default:
                    cropLower();
                    break;
            }
            return Math.abs(end(side) - before);
        }

        private void cropLeft() {
            while (left < right && columnIsEmpty(left)) {
                left++;
            }
        }

        private void cropUpper() {
            while (upper < lower && picture.rowBits(upper) == 0) {
                upper++;
            }
        }

        private void cropRight() {
            while (right > left && columnIsEmpty(right - 1)) {
                right--;
            }
        }

        private void cropLower() {
            while (lower > upper && picture.rowBits(lower - 1) == 0) {
                lower--;
            }
        }

        private boolean columnIsEmpty(int x) {
            for (int y = 0; y < picture.height; y++) {
                if (picture.isOn(x, y)) {
                    return false;
                }
            }
            return true;
        }
    }

    /** The sums of run ends, and what the latest search for the best angle found. */
    private static final class Search {
        private static final int GRID_STEP = 100;
        private static final int[] STEPS = {50, 25, 12, 6, 3, 1};
        // At 2000 the slope is some 0.364, so a line is at most 9 rows outside of the picture.
        private static final int ROWS_OUTSIDE = 12;

        private final Picture picture;
        private final int[] endsOnLine = new int[LONGEST_SIDE + 2 * ROWS_OUTSIDE];
        private boolean asked = false;
        private boolean sureOfBest = false;
        private double gridMean = 0.0;
        private int best = 0;
        private double bestSum = 0.0;

        Search(Picture picture) {
            this.picture = picture;
        }

        void forget() {
            asked = false;
        }

        boolean isAsked() {
            return asked;
        }

        boolean isSure() {
            return sureOfBest;
        }

        double meanOfGrid() {
            return gridMean;
        }

        int find(int most) {
            asked = true;
            if (picture.samplesOn() == 0) {
                sureOfBest = false;
                gridMean = 0.0;
                return NO_ANGLE;
            }
            tryGrid(most);
            for (int i = 0; i < STEPS.length; i++) {
                tryBeside(STEPS[i], most);
            }
            sureOfBest = bestSum >= 1.25 * gridMean;
            return best;
        }

        private void tryGrid(int most) {
            double total = 0.0;
            int tried = 0;
            for (int angle = -most; angle <= most; angle += GRID_STEP) {
                double sumHere = sumAt(angle);
                if (tried == 0 || sumHere > bestSum) {
                    take(angle, sumHere);
                }
                total = total + sumHere;
                tried++;
            }
            gridMean = tried > 0 ? total / (double) tried : 0.0;
        }

        private void tryBeside(int step, int most) {
            int less = best - step;
            int more = best + step;
            if (less >= -most) {
                double sumLess = sumAt(less);
                // Of equal sums the lesser angle goes first.
                if (sumLess >= bestSum) {
                    take(less, sumLess);
                }
            }
            if (more <= most) {
                double sumMore = sumAt(more);
                if (sumMore > bestSum) {
                    take(more, sumMore);
                }
            }
        }

        private void take(int angle, double sumHere) {
            best = angle;
            bestSum = sumHere;
        }

        double sumAt(int angle) {
            int ends = picture.runEnds();
            if (ends == 0) {
                return 0.0;
            }
            countEnds(Reckon.slope(angle));
            return (double) squaresOfCounts() / (double) ends;
        }

        private void countEnds(double slope) {
            for (int i = 0; i < endsOnLine.length; i++) {
                endsOnLine[i] = 0;
            }
            for (int y = 0; y < picture.height; y++) {
                int ends = picture.runEndBits(y);
                for (int x = 0; x < picture.width && ends >>> x != 0; x++) {
                    if ((ends >>> x & 1) != 0) {
                        countOnLine(Reckon.whole(y - x * slope));
                    }
                }
            }
        }

        private void countOnLine(int line) {
            int i = line + ROWS_OUTSIDE;
            if (i >= 0 && i < endsOnLine.length) {
                endsOnLine[i]++;
            }
        }

        private int squaresOfCounts() {
            int total = 0;
            for (int i = 0; i < endsOnLine.length; i++) {
                total += endsOnLine[i] * endsOnLine[i];
            }
            return total;
        }
    }

    /** The bands of rows that have something on, told from the picture as it is at the call. */
    private static final class Rows {
        private final Picture picture;

        Rows(Picture picture) {
            this.picture = picture;
        }

        private boolean beginsBand(int y) {
            return picture.rowBits(y) != 0 && picture.rowBits(y - 1) == 0;
        }

        int bandCount() {
            int count = 0;
            for (int y = 0; y < picture.height; y++) {
                if (beginsBand(y)) {
                    count++;
                }
            }
            return count;
        }

        int firstOfBand(int k) {
            int before = 0;
            for (int y = 0; y < picture.height; y++) {
                if (beginsBand(y)) {
                    if (before == k) {
                        return y;
                    }
                    before++;
                }
            }
            return NONE;
        }

        int behindBand(int first) {
            int y = first;
            while (y < picture.height && picture.rowBits(y) != 0) {
                y++;
            }
            return y;
        }

        int samplesBetween(int first, int behind) {
            int count = 0;
            for (int y = first; y < behind; y++) {
                count += Integer.bitCount(picture.rowBits(y));
            }
            return count;
        }

        int lowerMinusUpper() {
            int difference = 0;
            for (int y = 0; y < picture.height; y++) {
                if (beginsBand(y)) {
                    int behind = behindBand(y);
                    int half = (behind - y) / 2;
                    difference += samplesBetween(behind - half, behind);
                    difference -= samplesBetween(y, y + half);
                }
            }
            return difference;
        }

        double baseLineAt(int first, double v) {
            int behind = behindBand(first);
            int n = 0;
            int sumX = 0;
            int sumY = 0;
            int sumXX = 0;
            int sumXY = 0;
            for (int x = 0; x < picture.width; x++) {
                int y = lowestOn(x, first, behind);
                if (y != NONE) {
                    n++;
                    sumX += x;
                    sumY += y;
                    sumXX += x * x;
                    sumXY += x * y;
                }
            }
            if (n == 0) {
                return 0.0;
            }
            int d = n * sumXX - sumX * sumX;
            if (d == 0) {
                return (double) sumY / (double) n;
            }
            double g = (double) (n * sumXY - sumX * sumY) / (double) d;
            return g * v + ((double) sumY - g * (double) sumX) / (double) n;
        }

        private int lowestOn(int x, int first, int behind) {
            for (int y = behind - 1; y >= first; y--) {
                if (picture.isOn(x, y)) {
                    return y;
                }
            }
            return NONE;
        }
    }
}
