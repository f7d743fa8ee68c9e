import java.math.BigInteger;
import java.util.ArrayDeque;
import java.util.ArrayList;
import java.util.Deque;
import java.util.List;
import java.util.regex.Matcher;
import java.util.regex.Pattern;

/** A slow diagram for comparison. It takes other ways than PowerDiagram: fractions, clipped polygons, every weight tried. */
final class ReferenceDiagram {
    private static final int NO_SUCH_INDEX = -1;
    private static final int BAD_VALUE = -2;
    private static final int NOT_POSSIBLE = -3;
    private static final int FULL = -4;
    private static final int NONE = -9;
    private static final Pattern SETUP = Pattern.compile("P((?:[01][0-9]|20){2}(?:[0-3][0-9]{2}|400)){0,10}");

    record Fraction(BigInteger up, BigInteger down) implements Comparable<Fraction> {
        static Fraction of(long value) {
            return new Fraction(BigInteger.valueOf(value), BigInteger.ONE);
        }

        static Fraction of(BigInteger up, BigInteger down) {
            BigInteger divisor = up.gcd(down);
            if (down.signum() < 0) {
                divisor = divisor.negate();
            }
            return new Fraction(up.divide(divisor), down.divide(divisor));
        }

        Fraction plus(Fraction other) {
            return of(up.multiply(other.down).add(other.up.multiply(down)), down.multiply(other.down));
        }

        Fraction minus(Fraction other) {
            return plus(new Fraction(other.up.negate(), other.down));
        }

        Fraction times(Fraction other) {
            return of(up.multiply(other.up), down.multiply(other.down));
        }

        Fraction over(Fraction other) {
            return of(up.multiply(other.down), down.multiply(other.up));
        }

        int sign() {
            return up.signum();
        }

        @Override
        public int compareTo(Fraction other) {
            return minus(other).sign();
        }
    }

    record Point(Fraction x, Fraction y) {
        static Point of(long x, long y) {
            return new Point(Fraction.of(x), Fraction.of(y));
        }

        Point towards(Point other, Fraction t) {
            return new Point(x.plus(other.x.minus(x).times(t)), y.plus(other.y.minus(y).times(t)));
        }
    }

    record Site(int x, int y, int w) {
        Fraction power(Point p) {
            Fraction dx = p.x.minus(Fraction.of(x));
            Fraction dy = p.y.minus(Fraction.of(y));
            return dx.times(dx).plus(dy.times(dy)).minus(Fraction.of(w));
        }

        int power(int px, int py) {
            return (px - x) * (px - x) + (py - y) * (py - y) - w;
        }
    }

    private final StringBuilder text = new StringBuilder();
    private List<Site> sites = new ArrayList<>();
    private final Deque<List<Site>> history = new ArrayDeque<>();
    private final List<List<Site>> slots = new ArrayList<>();
    private final List<int[]> observations = new ArrayList<>();

    ReferenceDiagram() {
        slots.add(null);
        slots.add(null);
    }

    // ---- setup text

    int append(int c) {
        if (c < 0 || c > 255) {
            return BAD_VALUE;
        }
        if (text.length() == 80) {
            return FULL;
        }
        text.append((char) c);
        return text.length();
    }

    int clearText() {
        int length = text.length();
        text.setLength(0);
        return length;
    }

    int errorPosition() {
        for (int length = 1; length <= text.length(); length++) {
            Matcher m = SETUP.matcher(text.substring(0, length));
            boolean matches = m.matches();
            if (!matches && !m.hitEnd()) {
                return length - 1;
            }
        }
        return SETUP.matcher(text).matches() ? NONE : text.length();
    }

    int load() {
        if (!SETUP.matcher(text).matches()) {
            return NOT_POSSIBLE;
        }
        sites.clear();
        for (int k = 1; k < text.length(); k += 7) {
            sites.add(new Site(Integer.parseInt(text.substring(k, k + 2)), Integer.parseInt(text.substring(k + 2, k + 4)),
                Integer.parseInt(text.substring(k + 4, k + 7))));
        }
        history.clear();
        slots.set(0, null);
        slots.set(1, null);
        return sites.size();
    }

    // ---- sites and owners

    private boolean missing(int i) {
        return i < 0 || i >= sites.size();
    }

    private static boolean outside(int x, int y) {
        return Math.min(x, y) < 0 || Math.max(x, y) > 20;
    }

    private static boolean badWeight(int w) {
        return w < 0 || w > 400;
    }

    int siteCount() {
        return sites.size();
    }

    int site(int i, int what) {
        if (missing(i)) {
            return NO_SUCH_INDEX;
        }
        if (what < 0 || what > 2) {
            return BAD_VALUE;
        }
        Site s = sites.get(i);
        return new int[] {s.x, s.y, s.w}[what];
    }

    int powerDistance(int i, int x, int y) {
        if (missing(i)) {
            return NO_SUCH_INDEX;
        }
        return outside(x, y) ? BAD_VALUE : sites.get(i).power(x, y) + 1000;
    }

    private static int ownerAmong(List<Site> some, int x, int y) {
        int best = NONE;
        for (int i = some.size() - 1; i >= 0; i--) {
            if (best == NONE || some.get(i).power(x, y) <= some.get(best).power(x, y)) {
                best = i;
            }
        }
        return best;
    }

    private static int sizeAmong(List<Site> some, int i) {
        int size = 0;
        for (int v = 0; v < 441; v++) {
            size += ownerAmong(some, v / 21, v % 21) == i ? 1 : 0;
        }
        return size;
    }

    int owner(int x, int y) {
        return outside(x, y) ? BAD_VALUE : ownerAmong(sites, x, y);
    }

    int size(int i) {
        return missing(i) ? NO_SUCH_INDEX : sizeAmong(sites, i);
    }

    // ---- actions

    private void remember() {
        history.addLast(new ArrayList<>(sites));
        if (history.size() > 14) {
            history.removeFirst();
        }
    }

    int add(int x, int y, int w) {
        if (outside(x, y) || badWeight(w)) {
            return BAD_VALUE;
        }
        if (sites.size() == 10) {
            return FULL;
        }
        remember();
        sites.add(new Site(x, y, w));
        return sites.size() - 1;
    }

    int remove(int i) {
        if (missing(i)) {
            return NO_SUCH_INDEX;
        }
        remember();
        sites.remove(i);
        return sites.size();
    }

    int move(int i, int x, int y) {
        if (missing(i)) {
            return NO_SUCH_INDEX;
        }
        if (outside(x, y)) {
            return BAD_VALUE;
        }
        remember();
        Site old = sites.get(i);
        sites.set(i, new Site(x, y, old.w));
        return 100 * old.x + old.y;
    }

    int setWeight(int i, int w) {
        if (missing(i)) {
            return NO_SUCH_INDEX;
        }
        if (badWeight(w)) {
            return BAD_VALUE;
        }
        remember();
        Site old = sites.get(i);
        sites.set(i, new Site(old.x, old.y, w));
        return old.w;
    }

    int undo() {
        if (history.isEmpty()) {
            return NOT_POSSIBLE;
        }
        sites = history.removeLast();
        return history.size();
    }

    // ---- cells

    /** The corners of the cell in order, by cutting the square with one half-plane after another; empty if there is no area. */
    private static List<Point> polygon(List<Site> some, int i) {
        List<Point> points = new ArrayList<>(List.of(Point.of(0, 0), Point.of(20, 0), Point.of(20, 20), Point.of(0, 20)));
        for (int j = 0; j < some.size(); j++) {
            if (j != i) {
                points = tidied(cut(points, some.get(i), some.get(j)));
            }
        }
        return fromFirst(points);
    }

    private static List<Point> cut(List<Point> points, Site own, Site other) {
        List<Point> left = new ArrayList<>();
        for (int k = 0; k < points.size(); k++) {
            Point p = points.get(k);
            Point q = points.get((k + 1) % points.size());
            Fraction atP = own.power(p).minus(other.power(p));
            Fraction atQ = own.power(q).minus(other.power(q));
            if (atP.sign() <= 0) {
                left.add(p);
            }
            if (atP.sign() * atQ.sign() < 0) {
                left.add(p.towards(q, atP.over(atP.minus(atQ))));
            }
        }
        return left;
    }

    private static int turn(Point p, Point q, Point r) {
        Fraction one = q.x.minus(p.x).times(r.y.minus(p.y));
        Fraction two = q.y.minus(p.y).times(r.x.minus(p.x));
        return one.minus(two).sign();
    }

    private static List<Point> tidied(List<Point> points) {
        List<Point> kept = new ArrayList<>(points);
        boolean changed = true;
        while (changed && !kept.isEmpty()) {
            changed = false;
            for (int k = 0; k < kept.size() && !changed; k++) {
                int n = kept.size();
                if (n < 3 || turn(kept.get((k + n - 1) % n), kept.get(k), kept.get((k + 1) % n)) <= 0) {
                    kept.remove(k);
                    changed = true;
                }
            }
        }
        return kept;
    }

    private static List<Point> fromFirst(List<Point> points) {
        int first = 0;
        for (int k = 1; k < points.size(); k++) {
            int byX = points.get(k).x.compareTo(points.get(first).x);
            if (byX < 0 || byX == 0 && points.get(k).y.compareTo(points.get(first).y) < 0) {
                first = k;
            }
        }
        List<Point> turned = new ArrayList<>(points.subList(first, points.size()));
        turned.addAll(points.subList(0, first));
        return turned;
    }

    int cornerCount(int i) {
        return missing(i) ? NO_SUCH_INDEX : polygon(sites, i).size();
    }

    private int corner(boolean numerator, int i, int k, int axis) {
        if (missing(i)) {
            return NO_SUCH_INDEX;
        }
        List<Point> corners = polygon(sites, i);
        if (k < 0 || k >= corners.size()) {
            return NO_SUCH_INDEX;
        }
        if (axis != 0 && axis != 1) {
            return BAD_VALUE;
        }
        Fraction f = axis == 0 ? corners.get(k).x : corners.get(k).y;
        return (numerator ? f.up : f.down).intValueExact();
    }

    int cornerNumerator(int i, int k, int axis) {
        return corner(true, i, k, axis);
    }

    int cornerDenominator(int i, int k, int axis) {
        return corner(false, i, k, axis);
    }

    int hiddenSites() {
        int bits = 0;
        for (int i = 0; i < sites.size(); i++) {
            bits |= polygon(sites, i).isEmpty() ? 1 << i : 0;
        }
        return bits;
    }

    /** Sides of the one cell that run along the border of the two sites; they lie in both cells. */
    int neighbours(int i) {
        if (missing(i)) {
            return NO_SUCH_INDEX;
        }
        List<Point> corners = polygon(sites, i);
        int bits = 0;
        for (int j = 0; j < sites.size(); j++) {
            if (j == i || polygon(sites, j).isEmpty()) {
                continue;
            }
            Site own = sites.get(i);
            Site other = sites.get(j);
            for (int k = 0; k < corners.size(); k++) {
                Point p = corners.get(k);
                Point q = corners.get((k + 1) % corners.size());
                if (own.power(p).equals(other.power(p)) && own.power(q).equals(other.power(q))) {
                    bits |= 1 << j;
                }
            }
        }
        return bits;
    }

    // ---- triangles, segments

    /** The radical centre by Cramer's rule, relative to site i. */
    private Point centre(int i, int j, int k) {
        Site p = sites.get(i);
        Site q = sites.get(j);
        Site r = sites.get(k);
        long ax = q.x - p.x;
        long ay = q.y - p.y;
        long bx = r.x - p.x;
        long by = r.y - p.y;
        long down = 2 * (ax * by - ay * bx);
        if (down == 0) {
            return null;
        }
        long a = ax * ax + ay * ay - q.w + p.w;
        long b = bx * bx + by * by - r.w + p.w;
        Fraction x = Fraction.of(a * by - b * ay).over(Fraction.of(down));
        Fraction y = Fraction.of(ax * b - bx * a).over(Fraction.of(down));
        return new Point(x.plus(Fraction.of(p.x)), y.plus(Fraction.of(p.y)));
    }

    private boolean triangle(int i, int j, int k) {
        Point c = centre(i, j, k);
        if (c == null) {
            return false;
        }
        Fraction own = sites.get(j).power(c);
        for (Site s : sites) {
            if (s.power(c).compareTo(own) < 0) {
                return false;
            }
        }
        return true;
    }

    int isTriangle(int i, int j, int k) {
        if (missing(i) || missing(j) || missing(k)) {
            return NO_SUCH_INDEX;
        }
        return triangle(i, j, k) ? 1 : 0;
    }

    private int countTriangles(Site newcomer) {
        int found = 0;
        for (int set = 0; set < 1 << sites.size(); set++) {
            if (Integer.bitCount(set) == 3) {
                int i = Integer.numberOfTrailingZeros(set);
                int k = 31 - Integer.numberOfLeadingZeros(set);
                int j = Integer.numberOfTrailingZeros(set - (1 << i));
                if (triangle(i, j, k)) {
                    Point c = centre(i, j, k);
                    found += newcomer == null || newcomer.power(c).compareTo(sites.get(k).power(c)) < 0 ? 1 : 0;
                }
            }
        }
        return found;
    }

    int triangleCount() {
        return countTriangles(null);
    }

    int conflicts(int x, int y, int w) {
        return outside(x, y) || badWeight(w) ? BAD_VALUE : countTriangles(new Site(x, y, w));
    }

    /** A cell meets the segment in an interval, whose ends are ends of the segment or points of equal power of two sites. */
    int alongSegment(int x1, int y1, int x2, int y2) {
        if (outside(x1, y1) || outside(x2, y2)) {
            return BAD_VALUE;
        }
        Point p = Point.of(x1, y1);
        Point q = Point.of(x2, y2);
        int bits = bestAt(p) | bestAt(q);
        for (Site one : sites) {
            for (Site two : sites) {
                Fraction atP = one.power(p).minus(two.power(p));
                Fraction atQ = one.power(q).minus(two.power(q));
                if (atP.sign() * atQ.sign() < 0) {
                    bits |= bestAt(p.towards(q, atP.over(atP.minus(atQ))));
                }
            }
        }
        return bits;
    }

    private int bestAt(Point p) {
        Fraction best = null;
        for (Site s : sites) {
            best = best == null || s.power(p).compareTo(best) < 0 ? s.power(p) : best;
        }
        int bits = 0;
        for (int i = 0; i < sites.size(); i++) {
            bits |= sites.get(i).power(p).equals(best) ? 1 << i : 0;
        }
        return bits;
    }

    // ---- weights

    private List<Site> withWeight(int i, int w) {
        List<Site> changed = new ArrayList<>(sites);
        changed.set(i, new Site(sites.get(i).x, sites.get(i).y, w));
        return changed;
    }

    int weightForSize(int i, int n) {
        if (missing(i)) {
            return NO_SUCH_INDEX;
        }
        if (n < 0 || n > 441) {
            return BAD_VALUE;
        }
        for (int w = 0; w <= 400; w++) {
            if (sizeAmong(withWeight(i, w), i) >= n) {
                return w;
            }
        }
        return NONE;
    }

    int observe(int x, int y, int i) {
        if (outside(x, y) || i < 0 || i > 9) {
            return BAD_VALUE;
        }
        if (observations.size() == 6) {
            return FULL;
        }
        observations.add(new int[] {x, y, i});
        return observations.size();
    }

    int clearObservations() {
        int stored = observations.size();
        observations.clear();
        return stored;
    }

    int possibleWeights(int i, int what) {
        if (missing(i)) {
            return NO_SUCH_INDEX;
        }
        if (what < 0 || what > 2) {
            return BAD_VALUE;
        }
        List<Integer> possible = new ArrayList<>();
        for (int w = 0; w <= 400; w++) {
            List<Site> changed = withWeight(i, w);
            boolean allTrue = true;
            for (int[] o : observations) {
                allTrue &= ownerAmong(changed, o[0], o[1]) == o[2];
            }
            if (allTrue) {
                possible.add(w);
            }
        }
        if (what == 0) {
            return possible.size();
        }
        if (possible.isEmpty()) {
            return NONE;
        }
        return what == 1 ? possible.get(0) : possible.get(possible.size() - 1);
    }

    // ---- scripts, random samples

    int runScript(int n, long script) {
        if (n < 1 || n > 3 || script < 0 || Long.toString(script).length() > 5 * n) {
            return BAD_VALUE;
        }
        String digits = "0".repeat(15) + script;
        digits = digits.substring(digits.length() - 5 * n);
        List<Site> copy = new ArrayList<>(sites);
        int found = -1;
        for (int k = 0; k < n; k++) {
            String group = digits.substring(5 * k, 5 * k + 5);
            int i = group.charAt(1) - '0';
            boolean there = i < copy.size();
            int rest = Integer.parseInt(group.substring(2));
            int x = Integer.parseInt(group.substring(1, 3));
            int y = Integer.parseInt(group.substring(3));
            if (group.matches("1.000") && there) {
                copy.remove(i);
                found = -1;
            } else if (group.startsWith("2") && there && rest <= 400) {
                copy.set(i, new Site(copy.get(i).x, copy.get(i).y, rest));
            } else if (group.startsWith("4") && !outside(x, y) && !copy.isEmpty()) {
                found = ownerAmong(copy, x, y);
            } else if (!(group.matches("3.000") && there && polygon(copy, i).isEmpty()
                || group.matches("5.000") && found == i
                || group.startsWith("6") && there && sizeAmong(copy, i) >= rest)) {
                return k;
            }
        }
        return NONE;
    }

    int sample(long seed, int i, int m) {
        if (missing(i)) {
            return NO_SUCH_INDEX;
        }
        if (m < 1 || m > 200) {
            return BAD_VALUE;
        }
        BigInteger z = BigInteger.valueOf(seed);
        int owned = 0;
        for (int k = 0; k < m; k++) {
            z = z.multiply(new BigInteger("6364136223846793005")).add(new BigInteger("1442695040888963407"));
            z = z.mod(BigInteger.ONE.shiftLeft(64));
            int v = z.shiftRight(33).mod(BigInteger.valueOf(441)).intValue();
            owned += ownerAmong(sites, v / 21, v % 21) == i ? 1 : 0;
        }
        return owned;
    }

    // ---- save slots

    int save(int slot) {
        if (slot != 0 && slot != 1) {
            return NO_SUCH_INDEX;
        }
        slots.set(slot, new ArrayList<>(sites));
        return sites.size();
    }

    int restore(int slot) {
        if (slot != 0 && slot != 1) {
            return NO_SUCH_INDEX;
        }
        if (slots.get(slot) == null) {
            return NOT_POSSIBLE;
        }
        sites = new ArrayList<>(slots.get(slot));
        history.clear();
        return sites.size();
    }
}
