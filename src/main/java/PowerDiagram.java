/**
 * A power diagram (weighted Voronoi diagram) of at most 10 weighted sites in the square from (0, 0) to (20, 20).
 *
 * <p>All geometry is exact: points are held as whole numbers (x, y, d) with d > 0 that stand for (x / d, y / d). With the
 * document's limits every value stays below 2^31, but for the turns in Cell, which are longs.
 */
public final class PowerDiagram {
    public static final int NO_SUCH_INDEX = -1;
    public static final int BAD_VALUE = -2;
    public static final int NOT_POSSIBLE = -3;
    public static final int FULL = -4;
    public static final int NONE = -9;

    private static final int SIDE = 20;
    private static final int LATTICE_POINTS = 441;
    private static final int MAX_WEIGHT = 400;
    private static final int MAX_SITES = 10;
    private static final int MAX_REMEMBERED = 14;
    private static final int MAX_OBSERVATIONS = 6;
    private static final int MAX_SAMPLE = 200;
    private static final int SLOTS = 2;
    private static final int GROUP = 100000;
    private static final int MAX_GROUPS = 3;
    private static final int NOBODY = -1;

    private final SetupText text;
    private final Sites sites;
    private final HalfPlanes planes;
    private final Cell cell;
    private final Script trial;

    private final Sites[] history;
    private int newest;
    private int remembered;

    private final Sites[] slots;
    private final boolean[] slotFilled;

    private final int[] seenX;
    private final int[] seenY;
    private final int[] seenOwner;
    private int seen;

    private final int[] pointsByWeight;

    public PowerDiagram() {
        text = new SetupText();
        sites = new Sites();
        planes = new HalfPlanes();
        cell = new Cell(planes);
        trial = new Script(cell);
        history = newRow(MAX_REMEMBERED);
        newest = 0;
        remembered = 0;
        slots = newRow(SLOTS);
        slotFilled = new boolean[SLOTS];
        seenX = new int[MAX_OBSERVATIONS];
        seenY = new int[MAX_OBSERVATIONS];
        seenOwner = new int[MAX_OBSERVATIONS];
        seen = 0;
        pointsByWeight = new int[MAX_WEIGHT + 1];
    }

    private static Sites[] newRow(int length) {
        Sites[] row = new Sites[length];
        for (int k = 0; k < row.length; k++) {
            row[k] = new Sites();
        }
        return row;
    }

    // ---- setup text

    public int append(int c) {
        if (c < 0 || c > 255) {
            return BAD_VALUE;
        }
        if (!text.put(c)) {
            return FULL;
        }
        return text.length;
    }

    public int clearText() {
        int previous = text.length;
        text.length = 0;
        return previous;
    }

    public int errorPosition() {
        return text.firstError();
    }

    public int load() {
        if (text.firstError() != NONE) {
            return NOT_POSSIBLE;
        }
        text.readInto(sites);
        remembered = 0;
        for (int slot = 0; slot < slotFilled.length; slot++) {
            slotFilled[slot] = false;
        }
        return sites.count;
    }

    // ---- sites and owners

    public int siteCount() {
        return sites.count;
    }

    public int site(int i, int what) {
        if (!sites.has(i)) {
            return NO_SUCH_INDEX;
        }
        switch (what) {
            case 0:
                return sites.x[i];
            case 1:
                return sites.y[i];
            case 2:
                return sites.w[i];
            default:
                return BAD_VALUE;
        }
    }

    public int powerDistance(int i, int x, int y) {
        if (!sites.has(i)) {
            return NO_SUCH_INDEX;
        }
        if (!inSquare(x, y)) {
            return BAD_VALUE;
        }
        return sites.power(i, x, y) + 1000;
    }

    public int owner(int x, int y) {
        if (!inSquare(x, y)) {
            return BAD_VALUE;
        }
        int found = sites.ownerAt(x, y);
        return found == NOBODY ? NONE : found;
    }

    public int size(int i) {
        if (!sites.has(i)) {
            return NO_SUCH_INDEX;
        }
        return sites.pointsOwnedBy(i);
    }

    // ---- actions

    public int add(int x, int y, int w) {
        if (!inSquare(x, y) || !isWeight(w)) {
            return BAD_VALUE;
        }
        if (sites.count >= MAX_SITES) {
            return FULL;
        }
        remember();
        sites.put(x, y, w);
        return sites.count - 1;
    }

    public int remove(int i) {
        if (!sites.has(i)) {
            return NO_SUCH_INDEX;
        }
        remember();
        sites.drop(i);
        return sites.count;
    }

    public int move(int i, int x, int y) {
        if (!sites.has(i)) {
            return NO_SUCH_INDEX;
        }
        if (!inSquare(x, y)) {
            return BAD_VALUE;
        }
        remember();
        int previous = 100 * sites.x[i] + sites.y[i];
        sites.x[i] = x;
        sites.y[i] = y;
        return previous;
    }

    public int setWeight(int i, int w) {
        if (!sites.has(i)) {
            return NO_SUCH_INDEX;
        }
        if (!isWeight(w)) {
            return BAD_VALUE;
        }
        remember();
        int previous = sites.w[i];
        sites.w[i] = w;
        return previous;
    }

    public int undo() {
        if (remembered == 0) {
            return NOT_POSSIBLE;
        }
        Sites.copy(history[newest], sites);
        newest = newest == 0 ? MAX_REMEMBERED - 1 : newest - 1;
        remembered--;
        return remembered;
    }

    /** The history is a ring, so that the oldest state is overwritten when a fifteenth comes. */
    private void remember() {
        newest = newest == MAX_REMEMBERED - 1 ? 0 : newest + 1;
        Sites.copy(sites, history[newest]);
        remembered = Math.min(remembered + 1, MAX_REMEMBERED);
    }

    // ---- cells

    public int cornerCount(int i) {
        if (!sites.has(i)) {
            return NO_SUCH_INDEX;
        }
        cell.cutOut(sites, i);
        return cell.polygonCorners();
    }

    public int cornerNumerator(int i, int k, int axis) {
        int problem = problemWithCorner(i, k, axis);
        if (problem != 0) {
            return problem;
        }
        return cell.coordinate(k, axis) / cell.commonDivisor(k, axis);
    }

    public int cornerDenominator(int i, int k, int axis) {
        int problem = problemWithCorner(i, k, axis);
        if (problem != 0) {
            return problem;
        }
        return cell.d[k] / cell.commonDivisor(k, axis);
    }

    /** Where the answer is 0, the cell of site i stands ready with its corners in order. */
    private int problemWithCorner(int i, int k, int axis) {
        if (!sites.has(i)) {
            return NO_SUCH_INDEX;
        }
        cell.cutOut(sites, i);
        if (k < 0 || k >= cell.polygonCorners()) {
            return NO_SUCH_INDEX;
        }
        if (axis != 0 && axis != 1) {
            return BAD_VALUE;
        }
        cell.putInOrder();
        return 0;
    }

    public int hiddenSites() {
        int bits = 0;
        for (int i = 0; i < sites.count; i++) {
            if (cell.hides(sites, i)) {
                bits |= 1 << i;
            }
        }
        return bits;
    }

    public int neighbours(int i) {
        if (!sites.has(i)) {
            return NO_SUCH_INDEX;
        }
        int hidden = hiddenSites();
        if ((hidden >> i & 1) == 1) {
            return 0;
        }
        cell.cutOut(sites, i);
        int bits = 0;
        for (int j = 0; j < sites.count; j++) {
            if (j != i && (hidden >> j & 1) == 0 && cell.cornersSharedWith(j) >= 2) {
                bits |= 1 << j;
            }
        }
        return bits;
    }

    // ---- triangles, segments

    public int isTriangle(int i, int j, int k) {
        if (!sites.has(i) || !sites.has(j) || !sites.has(k)) {
            return NO_SUCH_INDEX;
        }
        planes.compare(sites, i);
        return formTriangle(j, k) ? 1 : 0;
    }

    public int triangleCount() {
        int triangles = 0;
        for (int i = 0; i < sites.count; i++) {
            planes.compare(sites, i);
            for (int j = i + 1; j < sites.count; j++) {
                for (int k = j + 1; k < sites.count; k++) {
                    if (formTriangle(j, k)) {
                        triangles++;
                    }
                }
            }
        }
        return triangles;
    }

    public int conflicts(int x, int y, int w) {
        if (!inSquare(x, y) || !isWeight(w)) {
            return BAD_VALUE;
        }
        int destroyed = 0;
        for (int i = 0; i < sites.count; i++) {
            planes.compare(sites, i);
            for (int j = i + 1; j < sites.count; j++) {
                for (int k = j + 1; k < sites.count; k++) {
                    if (formTriangle(j, k) && newcomerIsNearer(i, x, y, w)) {
                        destroyed++;
                    }
                }
            }
        }
        return destroyed;
    }

    /** The planes must compare the third site of the triangle; then its radical centre is where lines j and k meet. */
    private boolean formTriangle(int j, int k) {
        return planes.meet(j, k) && planes.holdMeeting();
    }

    private boolean newcomerIsNearer(int i, int x, int y, int w) {
        int a = 2 * (x - sites.x[i]);
        int b = 2 * (y - sites.y[i]);
        int c = Sites.level(x, y, w) - sites.levelOf(i);
        return planes.meetingIsBeyond(a, b, c);
    }

    public int alongSegment(int x1, int y1, int x2, int y2) {
        if (!inSquare(x1, y1) || !inSquare(x2, y2)) {
            return BAD_VALUE;
        }
        int bits = 0;
        for (int i = 0; i < sites.count; i++) {
            planes.compare(sites, i);
            if (planes.holdSomeOf(x1, y1, x2, y2)) {
                bits |= 1 << i;
            }
        }
        return bits;
    }

    // ---- weights

    public int weightForSize(int i, int n) {
        if (!sites.has(i)) {
            return NO_SUCH_INDEX;
        }
        if (n < 0 || n > LATTICE_POINTS) {
            return BAD_VALUE;
        }
        countPointsByWeight(i);
        int owned = 0;
        for (int w = 0; w < pointsByWeight.length; w++) {
            owned += pointsByWeight[w];
            if (owned >= n) {
                return w;
            }
        }
        return NONE;
    }

    /** A heavier site keeps every point that it owns, so each point is counted once: at the first weight that wins it. */
    private void countPointsByWeight(int i) {
        for (int w = 0; w < pointsByWeight.length; w++) {
            pointsByWeight[w] = 0;
        }
        for (int x = 0; x <= SIDE; x++) {
            for (int y = 0; y <= SIDE; y++) {
                int w = sites.weightToOwn(i, x, y);
                if (w >= 0 && w < pointsByWeight.length) {
                    pointsByWeight[w]++;
                }
            }
        }
    }

    public int observe(int x, int y, int i) {
        if (!inSquare(x, y) || i < 0 || i >= MAX_SITES) {
            return BAD_VALUE;
        }
        if (seen >= MAX_OBSERVATIONS) {
            return FULL;
        }
        seenX[seen] = x;
        seenY[seen] = y;
        seenOwner[seen] = i;
        seen++;
        return seen;
    }

    public int clearObservations() {
        int previous = seen;
        seen = 0;
        return previous;
    }

    public int possibleWeights(int i, int what) {
        if (!sites.has(i)) {
            return NO_SUCH_INDEX;
        }
        if (what < 0 || what > 2) {
            return BAD_VALUE;
        }
        // Points are won by growing weights and never lost again, so the possible weights have no gap.
        int smallest = smallestPossibleWeight(i);
        int greatest = greatestPossibleWeight(i);
        if (what == 0) {
            return Math.max(greatest - smallest + 1, 0);
        }
        if (smallest > greatest) {
            return NONE;
        }
        return what == 1 ? smallest : greatest;
    }

    private int smallestPossibleWeight(int i) {
        int smallest = 0;
        for (int k = 0; k < seen; k++) {
            if (seenOwner[k] == i) {
                smallest = Math.max(smallest, sites.weightToOwn(i, seenX[k], seenY[k]));
            }
        }
        return smallest;
    }

    private int greatestPossibleWeight(int i) {
        int greatest = MAX_WEIGHT;
        for (int k = 0; k < seen; k++) {
            if (seenOwner[k] != i) {
                if (sites.ownerWithout(i, seenX[k], seenY[k]) != seenOwner[k]) {
                    return -1;
                }
                greatest = Math.min(greatest, sites.weightToOwn(i, seenX[k], seenY[k]) - 1);
            }
        }
        return greatest;
    }

    // ---- scripts, random samples

    public int runScript(int n, long script) {
        if (n < 1 || n > MAX_GROUPS || script < 0) {
            return BAD_VALUE;
        }
        if (groupsAbove(script, n) != 0) {
            return BAD_VALUE;
        }
        trial.begin(sites);
        for (int command = 0; command < n; command++) {
            int group = (int) (groupsAbove(script, n - 1 - command) % GROUP);
            if (!trial.succeeds(group)) {
                return command;
            }
        }
        return NONE;
    }

    private static long groupsAbove(long script, int lowGroups) {
        long rest = script;
        for (int k = 0; k < lowGroups; k++) {
            rest /= GROUP;
        }
        return rest;
    }

    public int sample(long seed, int i, int m) {
        if (!sites.has(i)) {
            return NO_SUCH_INDEX;
        }
        if (m < 1 || m > MAX_SAMPLE) {
            return BAD_VALUE;
        }
        long z = seed;
        int owned = 0;
        for (int k = 0; k < m; k++) {
            z = z * 6364136223846793005L + 1442695040888963407L;
            int v = (int) (z >>> 33) % LATTICE_POINTS;
            if (sites.ownerAt(v / (SIDE + 1), v % (SIDE + 1)) == i) {
                owned++;
            }
        }
        return owned;
    }

    // ---- save slots

    public int save(int slot) {
        if (!isSlot(slot)) {
            return NO_SUCH_INDEX;
        }
        Sites.copy(sites, slots[slot]);
        slotFilled[slot] = true;
        return sites.count;
    }

    public int restore(int slot) {
        if (!isSlot(slot)) {
            return NO_SUCH_INDEX;
        }
        if (!slotFilled[slot]) {
            return NOT_POSSIBLE;
        }
        Sites.copy(slots[slot], sites);
        remembered = 0;
        return sites.count;
    }

    private static boolean isSlot(int slot) {
        return slot >= 0 && slot < SLOTS;
    }

    private static boolean inSquare(int x, int y) {
        return x >= 0 && x <= SIDE && y >= 0 && y <= SIDE;
    }

    private static boolean isWeight(int w) {
        return w >= 0 && w <= MAX_WEIGHT;
    }

    /** The text buffer and the form of a setup. */
    private static final class SetupText {
        private static final int SPACE = 80;
        private static final int SITE_LENGTH = 7;

        private final int[] characters;
        int length;

        SetupText() {
            characters = new int[SPACE];
            length = 0;
        }

        boolean put(int c) {
            if (length >= SPACE) {
                return false;
            }
            characters[length] = c;
            length++;
            return true;
        }

        int firstError() {
            for (int k = 0; k < length; k++) {
                if (!mayStandAt(k)) {
                    return k;
                }
            }
            return length % SITE_LENGTH == 1 ? NONE : length;
        }

        /** Looks at character k alone; the characters before it must be right already. */
        private boolean mayStandAt(int k) {
            int c = characters[k];
            if (k == 0) {
                return c == 'P';
            }
            if (k > MAX_SITES * SITE_LENGTH) {
                return false;
            }
            return c >= '0' && c <= greatestDigitAt(k);
        }

        /** The limits 20 and 400 end in zeros, so behind a greatest first digit only zeros may stand. */
        private int greatestDigitAt(int k) {
            switch ((k - 1) % SITE_LENGTH) {
                case 0:
                case 2:
                    return '2';
                case 1:
                case 3:
                    return characterAt(k - 1) == '2' ? '0' : '9';
                case 4:
                    return '4';
                case 5:
                    return characterAt(k - 1) == '4' ? '0' : '9';
                default:
                    return characterAt(k - 2) == '4' ? '0' : '9';
            }
        }

        private int characterAt(int k) {
            return k >= 0 && k < length ? characters[k] : 0;
        }

        /** The text must be a complete setup. */
        void readInto(Sites sites) {
            sites.count = 0;
            for (int k = 1; k + SITE_LENGTH <= length; k += SITE_LENGTH) {
                sites.put(number(k, 2), number(k + 2, 2), number(k + 4, 3));
            }
        }

        private int number(int from, int digits) {
            int value = 0;
            for (int k = from; k < from + digits; k++) {
                value = 10 * value + characterAt(k) - '0';
            }
            return value;
        }
    }

    /** The sites with what can be said of them at single points. */
    private static final class Sites {
        final int[] x;
        final int[] y;
        final int[] w;
        int count;

        Sites() {
            x = new int[MAX_SITES];
            y = new int[MAX_SITES];
            w = new int[MAX_SITES];
            count = 0;
        }

        static void copy(Sites from, Sites to) {
            if (from == null || to == null) {
                return;
            }
            for (int i = 0; i < MAX_SITES; i++) {
                to.x[i] = from.x[i];
                to.y[i] = from.y[i];
                to.w[i] = from.w[i];
            }
            to.count = from.count;
        }

        boolean has(int i) {
            return i >= 0 && i < count;
        }

        void put(int newX, int newY, int newW) {
            if (count >= MAX_SITES) {
                return;
            }
            x[count] = newX;
            y[count] = newY;
            w[count] = newW;
            count++;
        }

        void drop(int i) {
            if (!has(i)) {
                return;
            }
            for (int k = i + 1; k < count; k++) {
                x[k - 1] = x[k];
                y[k - 1] = y[k];
                w[k - 1] = w[k];
            }
            count--;
        }

        private int squareTo(int i, int px, int py) {
            int dx = px - x[i];
            int dy = py - y[i];
            return dx * dx + dy * dy;
        }

        int power(int i, int px, int py) {
            return squareTo(i, px, py) - w[i];
        }

        int ownerAt(int px, int py) {
            return ownerWithout(NOBODY, px, py);
        }

        int ownerWithout(int left, int px, int py) {
            int best = NOBODY;
            int bestPower = 0;
            for (int i = 0; i < count; i++) {
                if (i == left) {
                    continue;
                }
                int power = power(i, px, py);
                if (best == NOBODY || power < bestPower) {
                    best = i;
                    bestPower = power;
                }
            }
            return best;
        }

        int pointsOwnedBy(int i) {
            int owned = 0;
            for (int px = 0; px <= SIDE; px++) {
                for (int py = 0; py <= SIDE; py++) {
                    if (ownerAt(px, py) == i) {
                        owned++;
                    }
                }
            }
            return owned;
        }

        /** The smallest weight, from 0 up and perhaps above 400, with which site i would own the point. */
        int weightToOwn(int i, int px, int py) {
            int needed = 0;
            int square = squareTo(i, px, py);
            for (int j = 0; j < count; j++) {
                if (j != i) {
                    // At equal power the smaller number owns, so sites before i must be beaten by 1.
                    int lead = j < i ? 1 : 0;
                    needed = Math.max(needed, square - power(j, px, py) + lead);
                }
            }
            return needed;
        }

        /** The part of the power distance that does not depend on the point: its power at (0, 0). */
        static int level(int x, int y, int w) {
            return x * x + y * y - w;
        }

        int levelOf(int i) {
            return level(x[i], y[i], w[i]);
        }
    }

    /** Half-planes a * x + b * y <= c: where one site has no greater power distance than the others, and the square. */
    private static final class HalfPlanes {
        static final int SPACE = MAX_SITES + 4;

        private final int[] a;
        private final int[] b;
        private final int[] c;
        int count;

        int meetX;
        int meetY;
        int meetD;

        HalfPlanes() {
            a = new int[SPACE];
            b = new int[SPACE];
            c = new int[SPACE];
            count = 0;
            meetX = 0;
            meetY = 0;
            meetD = 1;
        }

        /** Half-plane j belongs to site j; that of i itself is the whole plane, so that the numbers agree. */
        void compare(Sites sites, int i) {
            count = 0;
            if (!sites.has(i)) {
                return;
            }
            for (int j = 0; j < sites.count; j++) {
                put(2 * (sites.x[j] - sites.x[i]), 2 * (sites.y[j] - sites.y[i]), sites.levelOf(j) - sites.levelOf(i));
            }
        }

        void addSquare() {
            put(-1, 0, 0);
            put(0, -1, 0);
            put(1, 0, SIDE);
            put(0, 1, SIDE);
        }

        private void put(int newA, int newB, int newC) {
            if (count >= SPACE) {
                return;
            }
            a[count] = newA;
            b[count] = newB;
            c[count] = newC;
            count++;
        }

        private boolean has(int k) {
            return k >= 0 && k < count;
        }

        /** Finds the point where the border lines p and q meet; false if there is not exactly one. */
        boolean meet(int p, int q) {
            if (!has(p) || !has(q)) {
                return false;
            }
            int determinant = a[p] * b[q] - a[q] * b[p];
            if (determinant == 0) {
                return false;
            }
            int sign = determinant > 0 ? 1 : -1;
            meetX = sign * (c[p] * b[q] - c[q] * b[p]);
            meetY = sign * (a[p] * c[q] - a[q] * c[p]);
            meetD = sign * determinant;
            return true;
        }

        boolean holdMeeting() {
            for (int k = 0; k < count; k++) {
                if (meetingIsBeyond(a[k], b[k], c[k])) {
                    return false;
                }
            }
            return true;
        }

        boolean meetingIsBeyond(int lineA, int lineB, int lineC) {
            return lineA * meetX + lineB * meetY > lineC * meetD;
        }

        boolean borderHolds(int k, int x, int y, int d) {
            return has(k) && a[k] * x + b[k] * y == c[k] * d;
        }

        /** Cuts the segment (x1, y1) + t * (dx, dy) down to the times t from low to high that all half-planes leave. */
        boolean holdSomeOf(int x1, int y1, int x2, int y2) {
            int lowUp = 0;
            int lowDown = 1;
            int highUp = 1;
            int highDown = 1;
            for (int k = 0; k < count; k++) {
                int slope = a[k] * (x2 - x1) + b[k] * (y2 - y1);
                int room = c[k] - a[k] * x1 - b[k] * y1;
                if (slope == 0 && room < 0) {
                    return false;
                }
                if (slope > 0 && room * highDown < highUp * slope) {
                    highUp = room;
                    highDown = slope;
                }
                if (slope < 0 && -room * lowDown > lowUp * -slope) {
                    lowUp = -room;
                    lowDown = -slope;
                }
            }
            return lowUp * highDown <= highUp * lowDown;
        }
    }

    /** The cell of one site, by its extreme points: none, one, two (a segment) or the corners of a polygon. */
    private static final class Cell {
        private static final int SPACE = HalfPlanes.SPACE;

        private final HalfPlanes planes;
        private final int[] x;
        private final int[] y;
        final int[] d;
        private int count;

        Cell(HalfPlanes planes) {
            this.planes = planes;
            x = new int[SPACE];
            y = new int[SPACE];
            d = new int[SPACE];
            count = 0;
        }

        /** A point of the cell is extreme just if two borders that are not parallel meet in it. */
        void cutOut(Sites sites, int i) {
            planes.compare(sites, i);
            planes.addSquare();
            count = 0;
            for (int p = 0; p < planes.count; p++) {
                for (int q = p + 1; q < planes.count; q++) {
                    if (planes.meet(p, q) && planes.holdMeeting()) {
                        putOnce(planes.meetX, planes.meetY, planes.meetD);
                    }
                }
            }
        }

        private void putOnce(int newX, int newY, int newD) {
            for (int k = 0; k < count; k++) {
                if (newX * d[k] == x[k] * newD && newY * d[k] == y[k] * newD) {
                    return;
                }
            }
            if (count >= SPACE) {
                return;
            }
            x[count] = newX;
            y[count] = newY;
            d[count] = newD;
            count++;
        }

        int polygonCorners() {
            return count >= 3 ? count : 0;
        }

        boolean hides(Sites sites, int i) {
            cutOut(sites, i);
            return polygonCorners() == 0;
        }

        /** What the cell has in common with that of site j is a face of it, which these corners span. */
        int cornersSharedWith(int j) {
            int shared = 0;
            for (int k = 0; k < count; k++) {
                if (planes.borderHolds(j, x[k], y[k], d[k])) {
                    shared++;
                }
            }
            return shared;
        }

        /** Seen from the first corner the others turn to the left, and no two of them stand in the same direction. */
        void putInOrder() {
            for (int k = 1; k < count; k++) {
                if (isBefore(k, 0)) {
                    swap(k, 0);
                }
            }
            for (int k = 2; k < count; k++) {
                for (int m = k; m > 1 && turn(m - 1, m) < 0; m--) {
                    swap(m - 1, m);
                }
            }
        }

        private boolean isBefore(int p, int q) {
            int px = x[p] * d[q];
            int qx = x[q] * d[p];
            return px != qx ? px < qx : y[p] * d[q] < y[q] * d[p];
        }

        /** Greater than 0 if the way from corner 0 over corner p to corner q turns to the left. */
        private long turn(int p, int q) {
            return x[0] * ((long) y[p] * d[q] - (long) y[q] * d[p])
                - y[0] * ((long) x[p] * d[q] - (long) x[q] * d[p])
                + d[0] * ((long) x[p] * y[q] - (long) x[q] * y[p]);
        }

        private void swap(int p, int q) {
            swapIn(x, p, q);
            swapIn(y, p, q);
            swapIn(d, p, q);
        }

        private static void swapIn(int[] row, int p, int q) {
            int kept = row[p];
            row[p] = row[q];
            row[q] = kept;
        }

        int coordinate(int k, int axis) {
            return axis == 0 ? x[k] : y[k];
        }

        /** Euclid's way; numbers of 31 bits never take as many as 50 steps. */
        int commonDivisor(int k, int axis) {
            int p = d[k];
            int q = coordinate(k, axis);
            for (int step = 0; step < 50 && q != 0; step++) {
                int rest = p % q;
                p = q;
                q = rest;
            }
            return Math.max(p, 1);
        }
    }

    /** A run of a script, on sites of its own. */
    private static final class Script {
        private final Cell cell;
        private final Sites sites;
        private int found;

        Script(Cell cell) {
            this.cell = cell;
            sites = new Sites();
            found = NOBODY;
        }

        void begin(Sites original) {
            Sites.copy(original, sites);
            found = NOBODY;
        }

        boolean succeeds(int group) {
            int i = group / 1000 % 10;
            int rest = group % 1000;
            switch (group / 10000) {
                case 1:
                    return rest == 0 && removes(i);
                case 2:
                    return weighs(i, rest);
                case 3:
                    return rest == 0 && sites.has(i) && cell.hides(sites, i);
                case 4:
                    return finds(group / 100 % 100, group % 100);
                case 5:
                    return rest == 0 && found == i;
                case 6:
                    return sites.has(i) && sites.pointsOwnedBy(i) >= rest;
                default:
                    return false;
            }
        }

        private boolean removes(int i) {
            if (!sites.has(i)) {
                return false;
            }
            sites.drop(i);
            found = NOBODY;
            return true;
        }

        private boolean weighs(int i, int w) {
            if (!sites.has(i) || !isWeight(w)) {
                return false;
            }
            sites.w[i] = w;
            return true;
        }

        private boolean finds(int px, int py) {
            if (!inSquare(px, py) || sites.count == 0) {
                return false;
            }
            found = sites.ownerAt(px, py);
            return true;
        }
    }
}
