import java.util.Random;

/** Runs of up to 512 calls with fixed seeds, each answer compared with that of ReferenceDiagram. */
public final class RandomRunsTests {
    private static final int CALLS = 512;
    // Writing a text of more than ten sites and loading it; nothing else takes so many calls.
    private static final int MOST_AT_ONCE = 90;
    private static final int[] EXTREMES = {
        Integer.MIN_VALUE, Integer.MIN_VALUE + 1, -1000, -1, 21, 401, 442, 1000, Integer.MAX_VALUE - 1, Integer.MAX_VALUE,
    };

    private final Check check;
    private final Random random;
    private final PowerDiagram own = new PowerDiagram();
    private final ReferenceDiagram other = new ReferenceDiagram();
    private final int step;
    private int calls = 0;

    private RandomRunsTests(Check check, long seed) {
        this.check = check;
        random = new Random(seed);
        // Coarse positions and weights make twins, borders in one line and common corners of many cells.
        step = new int[] {1, 2, 5, 10}[random.nextInt(4)];
    }

    public static void main(String[] args) {
        int runs = args.length > 0 ? Integer.parseInt(args[0]) : 60;
        Check check = new Check();
        for (int seed = 0; seed < runs; seed++) {
            check.topic("run " + seed);
            new RandomRunsTests(check, seed).run();
        }
        check.finish();
    }

    private void run() {
        int wanted = random.nextInt(11);
        while (other.siteCount() < wanted) {
            add();
        }
        while (calls + MOST_AT_ONCE <= CALLS) {
            int kind = random.nextInt(20);
            if (kind == 0) {
                writeText();
            } else if (kind < 5) {
                change();
            } else if (kind < 7) {
                allCorners();
            } else {
                ask();
            }
        }
    }

    private void due(String call, int got, int want) {
        calls++;
        check.due("call " + calls + ", " + call, got, want);
    }

    private boolean seldom() {
        return random.nextInt(40) == 0;
    }

    private int extreme() {
        return EXTREMES[random.nextInt(EXTREMES.length)];
    }

    private int coordinate() {
        return seldom() ? extreme() : random.nextInt(20 / step + 1) * step;
    }

    private int weight() {
        if (seldom()) {
            return extreme();
        }
        int most = random.nextInt(3) == 0 ? 400 : 60;
        return random.nextInt(most / step + 1) * step;
    }

    private int index() {
        if (seldom()) {
            return extreme();
        }
        return random.nextInt(Math.max(1, other.siteCount()) + (seldom() ? 1 : 0));
    }

    private int choice(int choices) {
        return seldom() ? extreme() : random.nextInt(choices + (seldom() ? 1 : 0));
    }

    private void add() {
        int x = coordinate();
        int y = coordinate();
        int w = weight();
        due("add " + x + " " + y + " " + w, own.add(x, y, w), other.add(x, y, w));
    }

    private void put(int c) {
        due("append " + c, own.append(c), other.append(c));
    }

    private void writeText() {
        due("clearText", own.clearText(), other.clearText());
        put(seldom() ? extreme() : 'P');
        for (int sites = random.nextInt(12); sites > 0; sites--) {
            String digits = String.format("%02d%02d%03d", random.nextInt(20 / step + 1) * step,
                random.nextInt(20 / step + 1) * step, random.nextInt(401));
            for (int k = 0; k < digits.length(); k++) {
                put(random.nextInt(200) == 0 ? random.nextInt(256) : digits.charAt(k));
            }
        }
        due("errorPosition", own.errorPosition(), other.errorPosition());
        due("load", own.load(), other.load());
    }

    private void change() {
        int i = index();
        int x = coordinate();
        int y = coordinate();
        int w = weight();
        int slot = choice(2);
        String with = " " + i + " " + x + " " + y + " " + w;
        switch (random.nextInt(12)) {
            case 0 -> due("remove" + with, own.remove(i), other.remove(i));
            case 1, 2 -> due("move" + with, own.move(i, x, y), other.move(i, x, y));
            case 3, 4 -> due("setWeight" + with, own.setWeight(i, w), other.setWeight(i, w));
            case 5, 6 -> due("undo", own.undo(), other.undo());
            case 7 -> due("save " + slot, own.save(slot), other.save(slot));
            case 8 -> due("restore " + slot, own.restore(slot), other.restore(slot));
            default -> add();
        }
        due("hiddenSites", own.hiddenSites(), other.hiddenSites());
        due("siteCount", own.siteCount(), other.siteCount());
    }

    private void allCorners() {
        int i = index();
        int corners = own.cornerCount(i);
        due("cornerCount " + i, corners, other.cornerCount(i));
        for (int k = 0; k < corners; k++) {
            for (int axis = 0; axis < 2; axis++) {
                String with = " " + i + " " + k + " " + axis;
                due("up" + with, own.cornerNumerator(i, k, axis), other.cornerNumerator(i, k, axis));
                due("down" + with, own.cornerDenominator(i, k, axis), other.cornerDenominator(i, k, axis));
            }
        }
    }

    private void ask() {
        int i = index();
        int j = index();
        int k = index();
        int what = choice(3);
        int x = coordinate();
        int y = coordinate();
        int w = weight();
        String with = " " + i + " " + j + " " + k + " " + what + " " + x + " " + y + " " + w;
        switch (random.nextInt(18)) {
            case 0 -> due("site" + with, own.site(i, what), other.site(i, what));
            case 1 -> due("powerDistance" + with, own.powerDistance(i, x, y), other.powerDistance(i, x, y));
            case 2 -> due("owner" + with, own.owner(x, y), other.owner(x, y));
            case 3 -> due("size" + with, own.size(i), other.size(i));
            case 4 -> due("cornerNumerator" + with, own.cornerNumerator(i, k, what), other.cornerNumerator(i, k, what));
            case 5 -> due("cornerDenominator" + with, own.cornerDenominator(i, k, what), other.cornerDenominator(i, k, what));
            case 6, 7 -> due("neighbours" + with, own.neighbours(i), other.neighbours(i));
            case 8 -> due("isTriangle" + with, own.isTriangle(i, j, k), other.isTriangle(i, j, k));
            case 9 -> due("triangleCount" + with, own.triangleCount(), other.triangleCount());
            case 10 -> due("conflicts" + with, own.conflicts(x, y, w), other.conflicts(x, y, w));
            case 11, 12 -> segment(x, y);
            case 13 -> wantedSize(i);
            case 14 -> observations(i);
            case 15 -> due("possibleWeights" + with, own.possibleWeights(i, what), other.possibleWeights(i, what));
            case 16 -> script();
            default -> randomPoints(i);
        }
    }

    private void segment(int x1, int y1) {
        int x2 = coordinate();
        int y2 = coordinate();
        due("alongSegment " + x1 + " " + y1 + " " + x2 + " " + y2, own.alongSegment(x1, y1, x2, y2),
            other.alongSegment(x1, y1, x2, y2));
    }

    private void wantedSize(int i) {
        int n = choice(442);
        due("weightForSize " + i + " " + n, own.weightForSize(i, n), other.weightForSize(i, n));
    }

    /** Mostly true ones, as a false one leaves no weight possible. */
    private void observations(int i) {
        if (random.nextInt(4) == 0) {
            due("clearObservations", own.clearObservations(), other.clearObservations());
        }
        for (int n = random.nextInt(4); n > 0; n--) {
            int x = coordinate();
            int y = coordinate();
            int o = random.nextInt(5) == 0 ? choice(10) : other.owner(x, y);
            due("observe " + x + " " + y + " " + o, own.observe(x, y, o), other.observe(x, y, o));
        }
        for (int what = 0; what < 3; what++) {
            due("possibleWeights " + i + " " + what, own.possibleWeights(i, what), other.possibleWeights(i, what));
        }
    }

    private void script() {
        int n = seldom() ? extreme() : 1 + random.nextInt(3 + (seldom() ? 1 : 0));
        long script = 0;
        for (int group = 0; group < 3 && group < n; group++) {
            script = 100000 * script + group();
        }
        if (seldom()) {
            script = random.nextBoolean() ? random.nextLong() : -script;
        }
        due("runScript " + n + " " + script, own.runScript(n, script), other.runScript(n, script));
    }

    private int group() {
        int i = 1000 * random.nextInt(Math.max(1, other.siteCount()));
        int x = random.nextInt(21);
        int y = random.nextInt(21);
        switch (random.nextInt(14)) {
            case 0, 1:
                return 10000 + i;
            case 2, 3:
                return 20000 + i + random.nextInt(402);
            case 4, 5:
                return 30000 + i;
            case 6, 7, 8:
                return 40000 + 100 * x + y;
            case 9, 10:
                return 50000 + i;
            case 11, 12:
                return 60000 + i + random.nextInt(120);
            default:
                return random.nextInt(100000);
        }
    }

    private void randomPoints(int i) {
        long seed = random.nextLong();
        int m = seldom() ? extreme() : 1 + random.nextInt(200);
        due("sample " + seed + " " + i + " " + m, own.sample(seed, i, m), other.sample(seed, i, m));
    }
}
