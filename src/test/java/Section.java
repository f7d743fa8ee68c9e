/** What the tests of the document's sections have in common: the errors, small ways to make diagrams, and the counting. */
abstract class Section {
    static final int NO_SUCH_INDEX = -1;
    static final int BAD_VALUE = -2;
    static final int NOT_POSSIBLE = -3;
    static final int FULL = -4;
    static final int NONE = -9;
    static final int LOW = Integer.MIN_VALUE;
    static final int HIGH = Integer.MAX_VALUE;

    final Check check = new Check();

    /** What is checked from here on belongs to this sentence of the document. */
    void sentence(String words) {
        check.topic(words);
    }

    void due(String call, long got, long want) {
        check.due(call, got, want);
    }

    static PowerDiagram withText(String text) {
        PowerDiagram d = new PowerDiagram();
        write(d, text);
        return d;
    }

    static void write(PowerDiagram d, String text) {
        for (int k = 0; k < text.length(); k++) {
            d.append(text.charAt(k));
        }
    }

    /** Triples of x, y and weight. */
    static PowerDiagram withSites(int... values) {
        PowerDiagram d = new PowerDiagram();
        for (int k = 0; k + 2 < values.length; k += 3) {
            d.add(values[k], values[k + 1], values[k + 2]);
        }
        return d;
    }

    /** Ten sites in a row, two apart, with cells that are strips. */
    static PowerDiagram tenSites() {
        PowerDiagram d = new PowerDiagram();
        for (int k = 0; k < 10; k++) {
            d.add(2 * k, 10, 0);
        }
        return d;
    }

    /** Four sites in the corners of the square, with four cells that meet in its middle. */
    static PowerDiagram fourCorners(int w) {
        return withSites(0, 0, w, 20, 0, w, 20, 20, w, 0, 20, w);
    }

    /** The cell of site 0 is the segment x = 10, between two half squares. */
    static PowerDiagram hiddenBetween() {
        return withSites(10, 10, 0, 0, 10, 100, 20, 10, 100);
    }

    void dueSites(PowerDiagram d, int... values) {
        due("siteCount()", d.siteCount(), values.length / 3);
        for (int k = 0; k < values.length; k++) {
            due("site(" + k / 3 + ", " + k % 3 + ")", d.site(k / 3, k % 3), values[k]);
        }
    }

    /** Quadruples: numerator and denominator of x, numerator and denominator of y. */
    void dueCorners(PowerDiagram d, int i, int... coordinates) {
        due("cornerCount(" + i + ")", d.cornerCount(i), coordinates.length / 4);
        for (int k = 0; 4 * k + 3 < coordinates.length; k++) {
            due("x up of corner " + k, d.cornerNumerator(i, k, 0), coordinates[4 * k]);
            due("x down of corner " + k, d.cornerDenominator(i, k, 0), coordinates[4 * k + 1]);
            due("y up of corner " + k, d.cornerNumerator(i, k, 1), coordinates[4 * k + 2]);
            due("y down of corner " + k, d.cornerDenominator(i, k, 1), coordinates[4 * k + 3]);
        }
    }
}
