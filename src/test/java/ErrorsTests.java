/** 'ERRORS': for each method its errors alone, and for each two of them that apply the one that is listed first. */
public final class ErrorsTests extends Section {
    private static final int[] NO_SITES = {-1, 2, 9, 10, LOW, HIGH};
    private static final int[] NO_COORDINATES = {-1, 21, LOW, HIGH};
    private static final int[] NO_WEIGHTS = {-1, 401, LOW, HIGH};

    private ErrorsTests() {
    }

    public static void main(String[] args) {
        ErrorsTests tests = new ErrorsTests();
        tests.textErrors();
        tests.siteErrors();
        tests.actionErrors();
        tests.cornerErrors(true);
        tests.cornerErrors(false);
        tests.cellErrors();
        tests.triangleErrors();
        tests.weightErrors();
        tests.observationErrors();
        tests.scriptErrors();
        tests.slotErrors();
        tests.noneIsNotAnError();
        tests.check.finish();
    }

    private static PowerDiagram two() {
        return withSites(0, 10, 0, 20, 10, 0);
    }

    private void textErrors() {
        sentence("If several errors apply, the one that is listed first. (append)");
        PowerDiagram d = withText("0".repeat(80));
        due("append('0')", d.append('0'), FULL);
        int[] wrong = {-1, 256, LOW, HIGH};
        for (int c : wrong) {
            due("append(" + c + ") to a full text", d.append(c), BAD_VALUE);
        }
    }

    private void siteErrors() {
        sentence("If several errors apply, the one that is listed first. (site, powerDistance, owner, size)");
        PowerDiagram d = two();
        for (int i : NO_SITES) {
            due("site(" + i + ", 0)", d.site(i, 0), NO_SUCH_INDEX);
            due("site(" + i + ", 3)", d.site(i, 3), NO_SUCH_INDEX);
            due("powerDistance(" + i + ", 0, 0)", d.powerDistance(i, 0, 0), NO_SUCH_INDEX);
            due("powerDistance(" + i + ", 21, -1)", d.powerDistance(i, 21, -1), NO_SUCH_INDEX);
            due("size(" + i + ")", d.size(i), NO_SUCH_INDEX);
        }
        int[] wrong = {-1, 3, LOW, HIGH};
        for (int what : wrong) {
            due("site(1, " + what + ")", d.site(1, what), BAD_VALUE);
        }
        for (int out : NO_COORDINATES) {
            due("powerDistance(1, " + out + ", 0)", d.powerDistance(1, out, 0), BAD_VALUE);
            due("powerDistance(1, 0, " + out + ")", d.powerDistance(1, 0, out), BAD_VALUE);
            due("owner(" + out + ", 0)", d.owner(out, 0), BAD_VALUE);
            due("owner(0, " + out + ")", d.owner(0, out), BAD_VALUE);
        }
    }

    private void actionErrors() {
        sentence("If several errors apply, the one that is listed first. (add, remove, move, setWeight)");
        PowerDiagram d = two();
        PowerDiagram ten = tenSites();
        for (int out : NO_COORDINATES) {
            due("add(" + out + ", 0, 0) to ten", ten.add(out, 0, 0), BAD_VALUE);
            due("add(0, " + out + ", 0) to ten", ten.add(0, out, 0), BAD_VALUE);
            due("move(1, " + out + ", 0)", d.move(1, out, 0), BAD_VALUE);
            due("move(1, 0, " + out + ")", d.move(1, 0, out), BAD_VALUE);
            due("move(2, " + out + ", 0)", d.move(2, out, 0), NO_SUCH_INDEX);
            due("move(-1, 0, " + out + ")", d.move(-1, 0, out), NO_SUCH_INDEX);
        }
        for (int w : NO_WEIGHTS) {
            due("add(0, 0, " + w + ") to ten", ten.add(0, 0, w), BAD_VALUE);
            due("setWeight(1, " + w + ")", d.setWeight(1, w), BAD_VALUE);
            due("setWeight(2, " + w + ")", d.setWeight(2, w), NO_SUCH_INDEX);
        }
        for (int i : NO_SITES) {
            due("remove(" + i + ")", d.remove(i), NO_SUCH_INDEX);
            due("move(" + i + ", 0, 0)", d.move(i, 0, 0), NO_SUCH_INDEX);
            due("setWeight(" + i + ", 0)", d.setWeight(i, 0), NO_SUCH_INDEX);
        }
        due("add(0, 0, 0) to ten", ten.add(0, 0, 0), FULL);
    }

    private static int corner(boolean numerator, PowerDiagram d, int i, int k, int axis) {
        return numerator ? d.cornerNumerator(i, k, axis) : d.cornerDenominator(i, k, axis);
    }

    private void cornerErrors(boolean numerator) {
        sentence("If several errors apply, the one that is listed first. (cornerNumerator, cornerDenominator)");
        PowerDiagram d = withSites(0, 0, 0, 20, 20, 0);
        int[] noAxes = {-1, 2, LOW, HIGH};
        int[] noCorners = {-1, 3, 14, LOW, HIGH};
        for (int axis : noAxes) {
            due("axis " + axis, corner(numerator, d, 1, 2, axis), BAD_VALUE);
            due("axis " + axis + ", no site", corner(numerator, d, 2, 2, axis), NO_SUCH_INDEX);
            due("axis " + axis + ", no corner", corner(numerator, d, 1, 3, axis), NO_SUCH_INDEX);
            due("axis " + axis + ", hidden", corner(numerator, hiddenBetween(), 0, 0, axis), NO_SUCH_INDEX);
        }
        for (int k : noCorners) {
            due("corner " + k, corner(numerator, d, 1, k, 0), NO_SUCH_INDEX);
        }
        for (int k = 0; k < 3; k++) {
            due("hidden, corner " + k, corner(numerator, hiddenBetween(), 0, k, 1), NO_SUCH_INDEX);
        }
        for (int i : NO_SITES) {
            due("site " + i, corner(numerator, d, i, 0, 0), NO_SUCH_INDEX);
        }
    }

    private void cellErrors() {
        sentence("NO_SUCH_INDEX if there is no such site. (cornerCount, neighbours)");
        PowerDiagram d = two();
        for (int i : NO_SITES) {
            due("cornerCount(" + i + ")", d.cornerCount(i), NO_SUCH_INDEX);
            due("neighbours(" + i + ")", d.neighbours(i), NO_SUCH_INDEX);
        }
        due("cornerCount(1)", d.cornerCount(1), 4);
        due("cornerCount(9) of ten", tenSites().cornerCount(9), 4);
        due("neighbours(9) of ten", tenSites().neighbours(9), 256);
    }

    private void triangleErrors() {
        sentence("BAD_VALUE if an argument is out of range. (conflicts, alongSegment)");
        PowerDiagram[] all = {new PowerDiagram(), two(), tenSites()};
        for (PowerDiagram d : all) {
            for (int out : NO_COORDINATES) {
                due("conflicts(" + out + ", 0, 0)", d.conflicts(out, 0, 0), BAD_VALUE);
                due("conflicts(0, " + out + ", 0)", d.conflicts(0, out, 0), BAD_VALUE);
                due("alongSegment(" + out + ", 0, 0, 0)", d.alongSegment(out, 0, 0, 0), BAD_VALUE);
                due("alongSegment(0, " + out + ", 0, 0)", d.alongSegment(0, out, 0, 0), BAD_VALUE);
                due("alongSegment(0, 0, " + out + ", 0)", d.alongSegment(0, 0, out, 0), BAD_VALUE);
                due("alongSegment(0, 0, 0, " + out + ")", d.alongSegment(0, 0, 0, out), BAD_VALUE);
            }
            for (int w : NO_WEIGHTS) {
                due("conflicts(0, 0, " + w + ")", d.conflicts(0, 0, w), BAD_VALUE);
            }
            due("conflicts(20, 20, 400)", d.conflicts(20, 20, 400), 0);
        }
    }

    private void weightErrors() {
        sentence("If several errors apply, the one that is listed first. (weightForSize, possibleWeights)");
        PowerDiagram d = two();
        for (int i : NO_SITES) {
            due("weightForSize(" + i + ", 0)", d.weightForSize(i, 0), NO_SUCH_INDEX);
            due("weightForSize(" + i + ", 442)", d.weightForSize(i, 442), NO_SUCH_INDEX);
            due("possibleWeights(" + i + ", 0)", d.possibleWeights(i, 0), NO_SUCH_INDEX);
            due("possibleWeights(" + i + ", 3)", d.possibleWeights(i, 3), NO_SUCH_INDEX);
        }
        due("weightForSize(1, -1)", d.weightForSize(1, -1), BAD_VALUE);
        due("weightForSize(1, 442)", d.weightForSize(1, 442), BAD_VALUE);
        due("possibleWeights(1, -1)", d.possibleWeights(1, -1), BAD_VALUE);
        due("possibleWeights(1, 3)", d.possibleWeights(1, 3), BAD_VALUE);
    }

    private void observationErrors() {
        sentence("If several errors apply, the one that is listed first. (observe)");
        PowerDiagram d = new PowerDiagram();
        for (int k = 0; k < 6; k++) {
            d.observe(k, k, k);
        }
        due("a seventh", d.observe(0, 0, 0), FULL);
        for (int out : NO_COORDINATES) {
            due("observe(" + out + ", 0, 0) as a seventh", d.observe(out, 0, 0), BAD_VALUE);
            due("observe(0, " + out + ", 0) as a seventh", d.observe(0, out, 0), BAD_VALUE);
        }
        due("observe(0, 0, 10) as a seventh", d.observe(0, 0, 10), BAD_VALUE);
        due("observe(0, 0, -1) as a seventh", d.observe(0, 0, -1), BAD_VALUE);
    }

    private void scriptErrors() {
        sentence("If several errors apply, the one that is listed first. (runScript, sample)");
        PowerDiagram d = two();
        due("runScript(0, -1)", d.runScript(0, -1), BAD_VALUE);
        due("runScript(4, -1)", d.runScript(4, -1), BAD_VALUE);
        due("runScript(1, 140000)", d.runScript(1, 140000), BAD_VALUE);
        for (int i : NO_SITES) {
            due("sample(0, " + i + ", 1)", d.sample(0, i, 1), NO_SUCH_INDEX);
            due("sample(0, " + i + ", 0)", d.sample(0, i, 0), NO_SUCH_INDEX);
            due("sample(0, " + i + ", 201)", d.sample(0, i, 201), NO_SUCH_INDEX);
        }
        due("sample(0, 1, 0)", d.sample(0, 1, 0), BAD_VALUE);
        due("sample(0, 1, 201)", d.sample(0, 1, 201), BAD_VALUE);
    }

    private void slotErrors() {
        sentence("If several errors apply, the one that is listed first. (restore)");
        PowerDiagram d = two();
        due("restore(2) when the slots are empty", d.restore(2), NO_SUCH_INDEX);
        due("restore(-1) when the slots are empty", d.restore(-1), NO_SUCH_INDEX);
        due("restore(1) when the slots are empty", d.restore(1), NOT_POSSIBLE);
    }

    private void noneIsNotAnError() {
        sentence("NONE is not an error; it is returned only if no error applies.");
        PowerDiagram none = new PowerDiagram();
        due("owner(20, 20)", none.owner(20, 20), NONE);
        due("owner(21, 20)", none.owner(21, 20), BAD_VALUE);
        due("owner(20, -1)", none.owner(20, -1), BAD_VALUE);
        due("errorPosition()", withText("P").errorPosition(), NONE);
        PowerDiagram twins = withSites(5, 5, 400, 5, 5, 0);
        due("weightForSize(1, 441)", twins.weightForSize(1, 441), NONE);
        due("weightForSize(1, 442)", twins.weightForSize(1, 442), BAD_VALUE);
        due("weightForSize(2, 441)", twins.weightForSize(2, 441), NO_SUCH_INDEX);
        twins.observe(5, 5, 7);
        due("possibleWeights(1, 1)", twins.possibleWeights(1, 1), NONE);
        due("possibleWeights(1, 2)", twins.possibleWeights(1, 2), NONE);
        due("possibleWeights(1, 3)", twins.possibleWeights(1, 3), BAD_VALUE);
        due("possibleWeights(2, 1)", twins.possibleWeights(2, 1), NO_SUCH_INDEX);
        due("runScript(1, 40000)", twins.runScript(1, 40000), NONE);
        due("runScript(0, 40000)", twins.runScript(0, 40000), BAD_VALUE);
        due("runScript(1, 140000)", twins.runScript(1, 140000), BAD_VALUE);
    }
}
