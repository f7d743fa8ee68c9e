/** A test for each promise of the document: ordinary inputs, the named edges, wrong inputs, and the order of errors. */
public final class PromiseTests extends Section {
    private PromiseTests() {
    }

    public static void main(String[] args) {
        PromiseTests tests = new PromiseTests();
        tests.textPromises();
        tests.sitePromises();
        tests.actionPromises();
        tests.cellPromises();
        tests.trianglePromises();
        tests.weightPromises();
        tests.scriptPromises();
        tests.slotPromises();
        tests.check.finish();
    }

    private void textPromises() {
        newObject();
        append();
        clearText();
        errorPosition();
        load();
    }

    private void sitePromises() {
        siteCount();
        site();
        powerDistance();
        owner();
        size();
    }

    private void actionPromises() {
        add();
        remove();
        move();
        setWeight();
        undo();
    }

    private void cellPromises() {
        cornerCount();
        cornerNumerator();
        cornerDenominator();
        cornerOrder();
        hiddenSites();
        neighbours();
    }

    private void trianglePromises() {
        isTriangle();
        triangleCount();
        conflicts();
        alongSegment();
    }

    private void weightPromises() {
        weightForSize();
        observe();
        clearObservations();
        possibleWeights();
    }

    private void scriptPromises() {
        runScript();
        scriptCommands();
        sample();
    }

    private void slotPromises() {
        save();
        restore();
    }

    // ---- promise 1

    private void newObject() {
        check.topic("promise 1");
        PowerDiagram d = new PowerDiagram();
        due("siteCount", d.siteCount(), 0);
        due("owner", d.owner(3, 3), NONE);
        due("undo", d.undo(), NOT_POSSIBLE);
        due("restore", d.restore(0), NOT_POSSIBLE);
        due("restore", d.restore(1), NOT_POSSIBLE);
        due("clearText", d.clearText(), 0);
        due("clearObservations", d.clearObservations(), 0);
        due("hiddenSites", d.hiddenSites(), 0);
        due("triangleCount", d.triangleCount(), 0);
    }

    // ---- promise 2

    private void append() {
        check.topic("promise 2");
        PowerDiagram d = new PowerDiagram();
        due("append(0)", d.append(0), 1);
        due("append(255)", d.append(255), 2);
        due("append(-1)", d.append(-1), BAD_VALUE);
        due("append(256)", d.append(256), BAD_VALUE);
        due("append(LOW)", d.append(LOW), BAD_VALUE);
        due("append(HIGH)", d.append(HIGH), BAD_VALUE);
        for (int k = 3; k <= 80; k++) {
            due("append", d.append('P'), k);
        }
        due("append to 80", d.append('P'), FULL);
        due("append to 80, bad", d.append(256), BAD_VALUE);
        due("append to 80, bad", d.append(-1), BAD_VALUE);
        due("clearText", d.clearText(), 80);
        due("append", d.append('P'), 1);
    }

    // ---- promise 3

    private void clearText() {
        check.topic("promise 3");
        PowerDiagram d = withText("P01");
        due("clearText", d.clearText(), 3);
        due("clearText", d.clearText(), 0);
        due("errorPosition", d.errorPosition(), 0);
        write(d, "P");
        due("errorPosition", d.errorPosition(), NONE);
    }

    // ---- promise 4

    private void dueErrorPosition(String text, int want) {
        due("errorPosition of " + text, withText(text).errorPosition(), want);
    }

    private void errorPosition() {
        check.topic("promise 4");
        dueErrorPosition("", 0);
        dueErrorPosition("p", 0);
        dueErrorPosition("0", 0);
        dueErrorPosition("P", NONE);
        dueErrorPosition("PP", 1);
        dueErrorPosition("P2", 2);
        dueErrorPosition("P3", 1);
        dueErrorPosition("P/", 1);
        dueErrorPosition("P20", 3);
        dueErrorPosition("P21", 2);
        dueErrorPosition("P19", 3);
        dueErrorPosition("P1:", 2);
        dueErrorPosition("P1/", 2);
        dueErrorPosition("P203", 3);
        dueErrorPosition("P2021", 4);
        dueErrorPosition("P2020", 5);
        dueErrorPosition("P20205", 5);
        dueErrorPosition("P202041", 6);
        dueErrorPosition("P2020401", 7);
        dueErrorPosition("P202040", 7);
        dueErrorPosition("P2020400", NONE);
        dueErrorPosition("P2020399", NONE);
        dueErrorPosition("P202039:", 7);
        dueErrorPosition("P0000000", NONE);
        dueErrorPosition("P00000004", 8);
        dueErrorPosition("P0000000P", 8);
        dueErrorPosition("P0000000 ", 8);
        dueErrorPosition("P00x0000P", 3);
        String ten = "P" + "0102034".repeat(10).replace('4', '0');
        dueErrorPosition(ten, NONE);
        dueErrorPosition(ten + "0", 71);
        dueErrorPosition(ten + "0102030", 71);
        dueErrorPosition(ten.substring(0, 70), 70);
        dueErrorPosition(ten + "x".repeat(9), 71);
    }

    // ---- promise 5

    private void load() {
        check.topic("promise 5");
        PowerDiagram d = withText("P2003400");
        d.add(1, 1, 1);
        d.save(0);
        d.save(1);
        d.observe(0, 0, 9);
        due("load", d.load(), 1);
        due("x", d.site(0, 0), 20);
        due("y", d.site(0, 1), 3);
        due("w", d.site(0, 2), 400);
        due("undo", d.undo(), NOT_POSSIBLE);
        due("restore(0)", d.restore(0), NOT_POSSIBLE);
        due("restore(1)", d.restore(1), NOT_POSSIBLE);
        due("errorPosition", d.errorPosition(), NONE);
        due("observations", d.possibleWeights(0, 0), 0);
        write(d, "0000000");
        due("load", d.load(), 2);
        due("x", d.site(1, 0), 0);
        due("clearObservations", d.clearObservations(), 1);
        d.add(5, 5, 5);
        d.save(1);
        write(d, "0");
        due("load of half a site", d.load(), NOT_POSSIBLE);
        due("siteCount", d.siteCount(), 3);
        due("undo", d.undo(), 0);
        due("restore(1)", d.restore(1), 3);
        due("clearText", d.clearText(), 16);
        due("load of nothing", d.load(), NOT_POSSIBLE);
        write(d, "P");
        due("load of no sites", d.load(), 0);
        due("siteCount", d.siteCount(), 0);
        String ten = "P" + "1218234".repeat(10);
        due("load of ten", withText(ten).load(), 10);
        due("load of more", withText(ten + "0").load(), NOT_POSSIBLE);
        due("load of a bad weight", withText("P0000401").load(), NOT_POSSIBLE);
        PowerDiagram last = withText("P" + "0000000".repeat(9) + "1907358");
        last.load();
        due("x", last.site(9, 0), 19);
        due("y", last.site(9, 1), 7);
        due("w", last.site(9, 2), 358);
    }

    // ---- promise 6

    private void siteCount() {
        check.topic("promise 6");
        PowerDiagram d = withSites(1, 1, 1, 1, 1, 1);
        due("siteCount", d.siteCount(), 2);
        d.remove(0);
        due("siteCount", d.siteCount(), 1);
        due("siteCount of ten", tenSites().siteCount(), 10);
    }

    // ---- promise 7

    private void site() {
        check.topic("promise 7");
        PowerDiagram d = withSites(3, 4, 5, 20, 0, 400);
        due("site(0, 0)", d.site(0, 0), 3);
        due("site(0, 1)", d.site(0, 1), 4);
        due("site(0, 2)", d.site(0, 2), 5);
        due("site(1, 0)", d.site(1, 0), 20);
        due("site(1, 1)", d.site(1, 1), 0);
        due("site(1, 2)", d.site(1, 2), 400);
        due("site(2, 0)", d.site(2, 0), NO_SUCH_INDEX);
        due("site(-1, 0)", d.site(-1, 0), NO_SUCH_INDEX);
        due("site(HIGH, 0)", d.site(HIGH, 0), NO_SUCH_INDEX);
        due("site(2, 3)", d.site(2, 3), NO_SUCH_INDEX);
        due("site(1, 3)", d.site(1, 3), BAD_VALUE);
        due("site(1, -1)", d.site(1, -1), BAD_VALUE);
        due("site(1, LOW)", d.site(1, LOW), BAD_VALUE);
    }

    // ---- promise 8

    private void powerDistance() {
        check.topic("promise 8");
        PowerDiagram d = withSites(3, 4, 5, 20, 20, 0, 7, 7, 400);
        due("powerDistance", d.powerDistance(0, 6, 8), 1020);
        due("powerDistance", d.powerDistance(0, 3, 4), 995);
        due("powerDistance", d.powerDistance(1, 0, 0), 1800);
        due("powerDistance", d.powerDistance(2, 7, 7), 600);
        due("no site", d.powerDistance(3, 0, 0), NO_SUCH_INDEX);
        due("no site", d.powerDistance(-1, 0, 0), NO_SUCH_INDEX);
        due("no site, bad x", d.powerDistance(3, 21, 0), NO_SUCH_INDEX);
        due("bad x", d.powerDistance(0, 21, 0), BAD_VALUE);
        due("bad x", d.powerDistance(0, -1, 0), BAD_VALUE);
        due("bad y", d.powerDistance(0, 0, 21), BAD_VALUE);
        due("bad y", d.powerDistance(0, 0, -1), BAD_VALUE);
        due("edge", d.powerDistance(0, 20, 0), 1300);
        due("edge", d.powerDistance(0, 0, 20), 1260);
    }

    // ---- promise 9

    private void owner() {
        check.topic("promise 9");
        PowerDiagram d = withSites(0, 10, 0, 20, 10, 0);
        due("left", d.owner(9, 3), 0);
        due("tie", d.owner(10, 3), 0);
        due("right", d.owner(11, 3), 1);
        due("corner", d.owner(20, 20), 1);
        due("corner", d.owner(0, 0), 0);
        due("bad x", d.owner(21, 0), BAD_VALUE);
        due("bad x", d.owner(-1, 0), BAD_VALUE);
        due("bad y", d.owner(0, 21), BAD_VALUE);
        due("bad y", d.owner(0, -1), BAD_VALUE);
        due("bad x, no sites", new PowerDiagram().owner(21, 0), BAD_VALUE);
        due("no sites", new PowerDiagram().owner(20, 0), NONE);
        PowerDiagram twins = withSites(5, 5, 7, 5, 5, 7, 5, 5, 8);
        due("heavier", twins.owner(5, 5), 2);
        twins.setWeight(2, 7);
        due("twins", twins.owner(5, 5), 0);
        // Site 0 is hidden: its cell is the segment x = 10.
        PowerDiagram hidden = withSites(10, 10, 0, 0, 10, 100, 20, 10, 100);
        due("hidden", hidden.hiddenSites(), 1);
        due("a hidden site owns", hidden.owner(10, 0), 0);
        due("beside it", hidden.owner(9, 0), 1);
    }

    // ---- promise 10

    private void size() {
        check.topic("promise 10");
        PowerDiagram d = withSites(0, 10, 0, 20, 10, 0);
        due("size(0)", d.size(0), 11 * 21);
        due("size(1)", d.size(1), 10 * 21);
        due("size(2)", d.size(2), NO_SUCH_INDEX);
        due("size(-1)", d.size(-1), NO_SUCH_INDEX);
        due("alone", withSites(0, 0, 0).size(0), 441);
        due("second twin", withSites(4, 4, 9, 4, 4, 9).size(1), 0);
        due("hidden", withSites(10, 10, 0, 0, 10, 100, 20, 10, 100).size(0), 21);
        due("no sites", new PowerDiagram().size(0), NO_SUCH_INDEX);
    }

    // ---- promise 11

    private void add() {
        check.topic("promise 11");
        PowerDiagram d = new PowerDiagram();
        due("add", d.add(0, 0, 0), 0);
        due("add", d.add(20, 20, 400), 1);
        due("add", d.add(20, 20, 400), 2);
        due("bad x", d.add(21, 0, 0), BAD_VALUE);
        due("bad x", d.add(-1, 0, 0), BAD_VALUE);
        due("bad y", d.add(0, 21, 0), BAD_VALUE);
        due("bad y", d.add(0, -1, 0), BAD_VALUE);
        due("bad w", d.add(0, 0, 401), BAD_VALUE);
        due("bad w", d.add(0, 0, -1), BAD_VALUE);
        due("siteCount", d.siteCount(), 3);
        due("undo", d.undo(), 2);
        PowerDiagram ten = tenSites();
        due("full", ten.add(0, 0, 0), FULL);
        due("full and bad", ten.add(0, 0, 401), BAD_VALUE);
        due("siteCount", ten.siteCount(), 10);
        due("undo", ten.undo(), 9);
        due("siteCount", ten.siteCount(), 9);
    }

    // ---- promise 12

    private void remove() {
        check.topic("promise 12");
        PowerDiagram d = withSites(1, 2, 3, 4, 5, 6, 7, 8, 9);
        due("remove(3)", d.remove(3), NO_SUCH_INDEX);
        due("remove(-1)", d.remove(-1), NO_SUCH_INDEX);
        due("remove(1)", d.remove(1), 2);
        due("behind", d.site(1, 0), 7);
        due("behind", d.site(1, 1), 8);
        due("behind", d.site(1, 2), 9);
        due("before", d.site(0, 0), 1);
        due("remove(1)", d.remove(1), 1);
        due("remove(0)", d.remove(0), 0);
        due("remove(0)", d.remove(0), NO_SUCH_INDEX);
        due("undo", d.undo(), 5);
        PowerDiagram ten = tenSites();
        due("first of ten", ten.remove(0), 9);
        due("last", ten.site(8, 0), 18);
        due("gone", ten.site(9, 0), NO_SUCH_INDEX);
    }

    // ---- promise 13

    private void move() {
        check.topic("promise 13");
        PowerDiagram d = withSites(20, 3, 77, 1, 1, 1);
        due("move", d.move(0, 0, 20), 2003);
        due("x", d.site(0, 0), 0);
        due("y", d.site(0, 1), 20);
        due("w", d.site(0, 2), 77);
        due("to the same place", d.move(0, 0, 20), 20);
        due("no site", d.move(2, 0, 0), NO_SUCH_INDEX);
        due("no site, bad x", d.move(2, 21, 0), NO_SUCH_INDEX);
        due("no site", d.move(-1, 0, 0), NO_SUCH_INDEX);
        due("bad x", d.move(0, 21, 0), BAD_VALUE);
        due("bad x", d.move(0, -1, 0), BAD_VALUE);
        due("bad y", d.move(0, 0, 21), BAD_VALUE);
        due("bad y", d.move(0, 0, -1), BAD_VALUE);
        due("undo", d.undo(), 3);
        due("undo", d.undo(), 2);
        due("x", d.site(0, 0), 20);
    }

    // ---- promise 14

    private void setWeight() {
        check.topic("promise 14");
        PowerDiagram d = withSites(20, 3, 77);
        due("setWeight", d.setWeight(0, 400), 77);
        due("setWeight", d.setWeight(0, 0), 400);
        due("setWeight", d.setWeight(0, 0), 0);
        due("w", d.site(0, 2), 0);
        due("x", d.site(0, 0), 20);
        due("no site", d.setWeight(1, 0), NO_SUCH_INDEX);
        due("no site, bad w", d.setWeight(1, 401), NO_SUCH_INDEX);
        due("no site", d.setWeight(-1, 0), NO_SUCH_INDEX);
        due("bad w", d.setWeight(0, 401), BAD_VALUE);
        due("bad w", d.setWeight(0, -1), BAD_VALUE);
        due("undo", d.undo(), 3);
        due("undo", d.undo(), 2);
        due("w", d.site(0, 2), 400);
    }

    // ---- promise 15

    private void undo() {
        check.topic("promise 15");
        PowerDiagram d = withSites(1, 1, 1);
        for (int w = 2; w <= 20; w++) {
            d.setWeight(0, w);
        }
        for (int left = 13; left >= 0; left--) {
            due("undo", d.undo(), left);
            due("w", d.site(0, 2), left + 6);
        }
        due("undo", d.undo(), NOT_POSSIBLE);
        due("w", d.site(0, 2), 6);
        d.setWeight(0, 50);
        d.remove(0);
        due("undo", d.undo(), 1);
        due("siteCount", d.siteCount(), 1);
        d.move(0, 9, 8);
        due("undo", d.undo(), 1);
        due("x", d.site(0, 0), 1);
        due("undo", d.undo(), 0);
        due("w", d.site(0, 2), 6);
        PowerDiagram errors = withSites(1, 1, 1);
        errors.add(21, 0, 0);
        errors.remove(1);
        errors.move(0, 0, 21);
        errors.setWeight(0, 401);
        errors.runScript(1, 20005);
        errors.conflicts(1, 1, 1);
        errors.weightForSize(0, 5);
        errors.possibleWeights(0, 0);
        errors.observe(1, 1, 0);
        errors.save(0);
        errors.load();
        due("only add was an action", errors.undo(), 0);
        due("siteCount", errors.siteCount(), 0);
    }

    // ---- promises 16 to 18

    private void cornerCount() {
        check.topic("promise 16");
        due("the square", withSites(3, 3, 3).cornerCount(0), 4);
        PowerDiagram half = withSites(0, 0, 0, 20, 20, 0);
        due("a triangle", half.cornerCount(0), 3);
        due("a triangle", half.cornerCount(1), 3);
        due("no site", half.cornerCount(2), NO_SUCH_INDEX);
        due("no site", half.cornerCount(-1), NO_SUCH_INDEX);
        PowerDiagram segment = withSites(10, 10, 0, 0, 10, 100, 20, 10, 100);
        due("a segment", segment.cornerCount(0), 0);
        segment.setWeight(0, 1);
        due("a strip", segment.cornerCount(0), 4);
        due("empty", withSites(3, 3, 0, 3, 3, 1).cornerCount(0), 0);
        due("twins", withSites(3, 3, 1, 3, 3, 1).cornerCount(1), 4);
        PowerDiagram point = withSites(10, 10, 0, 20, 20, 0);
        point.setWeight(0, 100);
        point.setWeight(1, 0);
        due("in a corner", point.cornerCount(1), 3);
        // The border goes through (20, 20) only.
        point.setWeight(0, 200);
        due("a point", point.cornerCount(1), 0);
        due("a point is hidden", point.hiddenSites(), 2);
        due("but owns nothing", point.owner(20, 20), 0);
        PowerDiagram five = withSites(0, 0, 30, 20, 0, 30, 0, 20, 30, 20, 20, 30, 10, 10, 30);
        due("eight corners", five.cornerCount(4), 4);
        five.setWeight(4, 60);
        due("eight corners", five.cornerCount(4), 8);
    }

    private void cornerNumerator() {
        check.topic("promise 17");
        // The border is x = 10 - 1 / 40.
        PowerDiagram d = withSites(0, 10, 0, 20, 10, 1);
        due("x of 1", d.cornerNumerator(0, 1, 0), 399);
        due("y of 1", d.cornerNumerator(0, 1, 1), 0);
        due("y of 2", d.cornerNumerator(0, 2, 1), 20);
        due("x of 0", d.cornerNumerator(0, 0, 0), 0);
        due("x of 0", d.cornerNumerator(1, 0, 0), 399);
        dueCornerErrors(true);
    }

    private void cornerDenominator() {
        check.topic("promise 18");
        PowerDiagram d = withSites(0, 10, 0, 20, 10, 1);
        due("x of 1", d.cornerDenominator(0, 1, 0), 40);
        due("y of 1", d.cornerDenominator(0, 1, 1), 1);
        due("y of 2", d.cornerDenominator(0, 2, 1), 1);
        due("x of 0", d.cornerDenominator(0, 0, 0), 1);
        due("x of 0", d.cornerDenominator(1, 0, 0), 40);
        dueCornerErrors(false);
    }

    private int corner(boolean numerator, PowerDiagram d, int i, int k, int axis) {
        return numerator ? d.cornerNumerator(i, k, axis) : d.cornerDenominator(i, k, axis);
    }

    private void dueCornerErrors(boolean numerator) {
        PowerDiagram d = withSites(0, 0, 0, 20, 20, 0);
        due("no site", corner(numerator, d, 2, 0, 0), NO_SUCH_INDEX);
        due("no site", corner(numerator, d, -1, 0, 0), NO_SUCH_INDEX);
        due("no site, bad axis", corner(numerator, d, 2, 0, 2), NO_SUCH_INDEX);
        due("no corner", corner(numerator, d, 0, 3, 0), NO_SUCH_INDEX);
        due("no corner", corner(numerator, d, 0, -1, 0), NO_SUCH_INDEX);
        due("no corner", corner(numerator, d, 0, HIGH, 0), NO_SUCH_INDEX);
        due("no corner, bad axis", corner(numerator, d, 0, 3, 2), NO_SUCH_INDEX);
        due("bad axis", corner(numerator, d, 0, 2, 2), BAD_VALUE);
        due("bad axis", corner(numerator, d, 0, 2, -1), BAD_VALUE);
        PowerDiagram hidden = withSites(10, 10, 0, 0, 10, 100, 20, 10, 100);
        due("end of a segment", corner(numerator, hidden, 0, 0, 0), NO_SUCH_INDEX);
        due("end of a segment, bad axis", corner(numerator, hidden, 0, 0, 2), NO_SUCH_INDEX);
    }

    private void cornerOrder() {
        check.topic("promises 16 to 18, order of corners");
        dueCorners(withSites(7, 7, 7), 0, 0, 1, 0, 1, 20, 1, 0, 1, 20, 1, 20, 1, 0, 1, 20, 1);
        PowerDiagram half = withSites(0, 0, 0, 20, 20, 0);
        dueCorners(half, 0, 0, 1, 0, 1, 20, 1, 0, 1, 0, 1, 20, 1);
        dueCorners(half, 1, 0, 1, 20, 1, 20, 1, 0, 1, 20, 1, 20, 1);
        // A rhombus: the smallest x stands alone.
        PowerDiagram five = withSites(0, 0, 0, 20, 0, 0, 0, 20, 0, 20, 20, 0, 10, 10, 0);
        dueCorners(five, 4, 0, 1, 10, 1, 10, 1, 0, 1, 20, 1, 10, 1, 10, 1, 20, 1);
        // Three borders meet in (10, 10), which is one corner and not two.
        PowerDiagram four = withSites(0, 0, 0, 20, 0, 0, 20, 20, 0, 0, 20, 0);
        dueCorners(four, 2, 10, 1, 10, 1, 20, 1, 10, 1, 20, 1, 20, 1, 10, 1, 20, 1);
        // The borders are 20 x + 10 y = 125 and 6 x + 38 y = 370.
        PowerDiagram slopes = withSites(0, 0, 0, 10, 5, 0, 3, 19, 0);
        dueCorners(slopes, 0, 0, 1, 0, 1, 25, 4, 0, 1, 3, 2, 19, 2, 0, 1, 185, 19);
        // Two borders in one line: sites 1 and 2 are twins.
        dueCorners(withSites(0, 0, 0, 20, 0, 0, 20, 0, 0), 0, 0, 1, 0, 1, 10, 1, 0, 1, 10, 1, 20, 1, 0, 1, 20, 1);
    }

    // ---- promise 19

    private void hiddenSites() {
        check.topic("promise 19");
        due("no sites", new PowerDiagram().hiddenSites(), 0);
        due("one site", withSites(1, 1, 1).hiddenSites(), 0);
        due("segment", withSites(10, 10, 0, 0, 10, 100, 20, 10, 100).hiddenSites(), 1);
        due("strip", withSites(10, 10, 1, 0, 10, 100, 20, 10, 100).hiddenSites(), 0);
        due("empty", withSites(0, 10, 100, 10, 10, 0, 20, 10, 101).hiddenSites(), 2);
        due("twins", withSites(5, 5, 5, 5, 5, 5).hiddenSites(), 0);
        due("twins and more", withSites(5, 5, 5, 5, 5, 5, 5, 5, 6).hiddenSites(), 3);
        // The border of site 1 is the side x = 20 of the square.
        due("on the side", withSites(10, 10, 200, 20, 10, 100).hiddenSites(), 2);
        due("near the side", withSites(10, 10, 200, 20, 10, 101).hiddenSites(), 0);
        due("on the side", withSites(10, 10, 300, 15, 10, 225).hiddenSites(), 2);
        due("near the side", withSites(10, 10, 300, 15, 10, 226).hiddenSites(), 0);
        PowerDiagram ten = tenSites();
        ten.setWeight(9, 400);
        due("ten", ten.hiddenSites(), 511);
    }

    // ---- promise 20

    private void neighbours() {
        check.topic("promise 20");
        PowerDiagram four = withSites(0, 0, 0, 20, 0, 0, 20, 20, 0, 0, 20, 0);
        due("point contact", four.neighbours(0), 2 + 8);
        due("point contact", four.neighbours(1), 1 + 4);
        due("no site", four.neighbours(4), NO_SUCH_INDEX);
        due("no site", four.neighbours(-1), NO_SUCH_INDEX);
        four.setWeight(0, 1);
        due("segment now", four.neighbours(0), 2 + 4 + 8);
        due("no segment now", four.neighbours(1), 1 + 4);
        PowerDiagram twins = withSites(5, 5, 5, 5, 5, 5, 15, 5, 5);
        due("twin", twins.neighbours(0), 2 + 4);
        due("twin", twins.neighbours(1), 1 + 4);
        due("of twins", twins.neighbours(2), 1 + 2);
        // Site 0 is the border of 1 and 2: it shares segments, but it is hidden.
        PowerDiagram hidden = withSites(10, 10, 0, 0, 10, 100, 20, 10, 100);
        due("hidden", hidden.neighbours(0), 0);
        due("beside hidden", hidden.neighbours(1), 4);
        due("beside hidden", hidden.neighbours(2), 2);
        due("alone", withSites(5, 5, 5).neighbours(0), 0);
        PowerDiagram row = tenSites();
        due("row", row.neighbours(0), 2);
        due("row", row.neighbours(4), 8 + 32);
        due("row", row.neighbours(9), 256);
    }

    // ---- promise 21

    private void isTriangle() {
        check.topic("promise 21");
        PowerDiagram four = withSites(0, 0, 0, 20, 0, 0, 20, 20, 0, 0, 20, 0);
        due("cocircular", four.isTriangle(0, 1, 2), 1);
        due("any order", four.isTriangle(2, 0, 1), 1);
        due("any order", four.isTriangle(3, 2, 1), 1);
        due("the same twice", four.isTriangle(0, 0, 1), 0);
        due("the same twice", four.isTriangle(0, 1, 1), 0);
        due("the same thrice", four.isTriangle(1, 1, 1), 0);
        four.setWeight(3, 1);
        due("destroyed", four.isTriangle(0, 1, 2), 0);
        due("kept", four.isTriangle(0, 1, 3), 1);
        due("no site", four.isTriangle(4, 0, 1), NO_SUCH_INDEX);
        due("no site", four.isTriangle(0, 4, 1), NO_SUCH_INDEX);
        due("no site", four.isTriangle(0, 1, 4), NO_SUCH_INDEX);
        due("no site", four.isTriangle(-1, 0, 1), NO_SUCH_INDEX);
        due("no site", four.isTriangle(0, -1, 1), NO_SUCH_INDEX);
        due("no site", four.isTriangle(0, 1, -1), NO_SUCH_INDEX);
        due("no site twice", four.isTriangle(0, 4, 4), NO_SUCH_INDEX);
        due("in a line", withSites(0, 0, 0, 5, 5, 0, 9, 9, 0).isTriangle(0, 1, 2), 0);
        PowerDiagram twins = withSites(0, 0, 0, 0, 0, 0, 9, 3, 0, 4, 9, 0);
        due("twins", twins.isTriangle(0, 1, 2), 0);
        due("one of twins", twins.isTriangle(1, 2, 3), 1);
        twins.setWeight(0, 1);
        due("heavier twin", twins.isTriangle(1, 2, 3), 0);
        // The radical centre lies far outside the square.
        due("flat", withSites(0, 0, 0, 10, 1, 0, 20, 0, 0).isTriangle(0, 1, 2), 1);
        due("flat", withSites(0, 0, 0, 10, 1, 0, 20, 0, 0, 10, 20, 0).isTriangle(0, 1, 2), 1);
        due("flat", withSites(0, 0, 0, 10, 1, 0, 20, 0, 0, 10, 0, 0).isTriangle(0, 1, 2), 0);
    }

    // ---- promise 22

    private void triangleCount() {
        check.topic("promise 22");
        due("no sites", new PowerDiagram().triangleCount(), 0);
        due("two sites", withSites(0, 0, 0, 5, 5, 5).triangleCount(), 0);
        due("three sites", withSites(0, 0, 0, 5, 5, 5, 0, 9, 9).triangleCount(), 1);
        due("in a line", tenSites().triangleCount(), 0);
        PowerDiagram four = withSites(0, 0, 0, 20, 0, 0, 20, 20, 0, 0, 20, 0);
        due("cocircular", four.triangleCount(), 4);
        four.setWeight(0, 1);
        due("not cocircular", four.triangleCount(), 2);
        four.add(10, 10, 0);
        due("with a middle", four.triangleCount(), 4);
        due("twins", withSites(0, 0, 0, 0, 0, 0, 9, 3, 0, 4, 9, 0).triangleCount(), 2);
    }

    // ---- promise 23

    private void conflicts() {
        check.topic("promise 23");
        PowerDiagram four = withSites(0, 0, 0, 20, 0, 0, 20, 20, 0, 0, 20, 0);
        due("on the circle", four.conflicts(20, 20, 0), 0);
        due("over it", four.conflicts(20, 20, 1), 4);
        due("in it", four.conflicts(10, 10, 0), 4);
        due("in it", four.conflicts(0, 10, 0), 4);
        due("bad x", four.conflicts(21, 0, 0), BAD_VALUE);
        due("bad x", four.conflicts(-1, 0, 0), BAD_VALUE);
        due("bad y", four.conflicts(0, 21, 0), BAD_VALUE);
        due("bad y", four.conflicts(0, -1, 0), BAD_VALUE);
        due("bad w", four.conflicts(0, 0, 401), BAD_VALUE);
        due("bad w", four.conflicts(0, 0, -1), BAD_VALUE);
        due("siteCount", four.siteCount(), 4);
        due("triangleCount", four.triangleCount(), 4);
        due("undo", four.undo(), 3);
        four.add(0, 20, 1);
        due("both of two", four.conflicts(20, 0, 1), 2);
        due("one of two", four.conflicts(0, 0, 1), 1);
        due("bad x, no sites", new PowerDiagram().conflicts(21, 0, 0), BAD_VALUE);
        due("no sites", new PowerDiagram().conflicts(0, 0, 400), 0);
        PowerDiagram ten = new PowerDiagram();
        for (int k = 0; k < 10; k++) {
            ten.add(2 * k, k % 2 * 20, 0);
        }
        due("ten sites", ten.conflicts(10, 10, 400), ten.triangleCount());
    }

    // ---- promise 24

    private void alongSegment() {
        check.topic("promise 24");
        PowerDiagram row = tenSites();
        due("all", row.alongSegment(0, 0, 20, 0), 1023);
        due("all, backwards", row.alongSegment(20, 20, 0, 3), 1023);
        due("a point in a cell", row.alongSegment(0, 5, 0, 5), 1);
        due("a point on a border", row.alongSegment(1, 5, 1, 5), 3);
        due("along a border", row.alongSegment(1, 5, 1, 20), 3);
        due("from border to border", row.alongSegment(3, 2, 5, 2), 2 + 4 + 8);
        due("up", row.alongSegment(4, 2, 4, 20), 4);
        PowerDiagram hidden = withSites(10, 10, 0, 0, 10, 100, 20, 10, 100);
        due("through a hidden cell", hidden.alongSegment(0, 0, 20, 20), 7);
        due("touching a hidden cell", hidden.alongSegment(0, 0, 10, 20), 7);
        due("before it", hidden.alongSegment(0, 0, 9, 20), 2);
        due("empty cell", withSites(5, 5, 5, 5, 5, 6).alongSegment(0, 0, 20, 20), 2);
        due("twins", withSites(5, 5, 5, 5, 5, 5).alongSegment(7, 7, 7, 7), 3);
        PowerDiagram four = withSites(0, 0, 0, 20, 0, 0, 20, 20, 0, 0, 20, 0);
        due("the middle", four.alongSegment(0, 0, 20, 20), 15);
        due("a diagonal aside", four.alongSegment(0, 1, 19, 20), 1 + 8 + 4);
        due("no sites", new PowerDiagram().alongSegment(0, 0, 1, 1), 0);
        due("bad x1", four.alongSegment(21, 0, 0, 0), BAD_VALUE);
        due("bad y1", four.alongSegment(0, -1, 0, 0), BAD_VALUE);
        due("bad x2", four.alongSegment(0, 0, -1, 0), BAD_VALUE);
        due("bad y2", four.alongSegment(0, 0, 0, 21), BAD_VALUE);
        due("bad y2, no sites", new PowerDiagram().alongSegment(0, 0, 0, 21), BAD_VALUE);
    }

    // ---- promise 25

    private void weightForSize() {
        check.topic("promise 25");
        PowerDiagram d = withSites(0, 10, 0, 20, 10, 0);
        due("nothing", d.weightForSize(1, 0), 0);
        due("as it is", d.weightForSize(1, 210), 0);
        due("one more", d.weightForSize(1, 211), 1);
        due("first with one more", d.weightForSize(0, 232), 40);
        due("all", d.weightForSize(0, 441), 400);
        due("all", d.weightForSize(1, 441), NONE);
        due("most", d.weightForSize(1, 420), 361);
        d.setWeight(0, 350);
        due("less than now", d.weightForSize(0, 231), 0);
        due("nothing changed", d.site(0, 2), 350);
        due("no site", d.weightForSize(2, 0), NO_SUCH_INDEX);
        due("no site, bad n", d.weightForSize(2, 442), NO_SUCH_INDEX);
        due("no site", d.weightForSize(-1, 0), NO_SUCH_INDEX);
        due("bad n", d.weightForSize(0, 442), BAD_VALUE);
        due("bad n", d.weightForSize(0, -1), BAD_VALUE);
        due("alone", withSites(0, 0, 300).weightForSize(0, 441), 0);
        due("behind a heavy twin", withSites(0, 0, 400, 0, 0, 0).weightForSize(1, 1), NONE);
        due("before a heavy twin", withSites(0, 0, 0, 0, 0, 400).weightForSize(0, 441), 400);
    }

    // ---- promise 26

    private void observe() {
        check.topic("promise 26");
        PowerDiagram d = new PowerDiagram();
        due("observe", d.observe(0, 0, 0), 1);
        due("observe", d.observe(20, 20, 9), 2);
        due("bad x", d.observe(21, 0, 0), BAD_VALUE);
        due("bad x", d.observe(-1, 0, 0), BAD_VALUE);
        due("bad y", d.observe(0, 21, 0), BAD_VALUE);
        due("bad y", d.observe(0, -1, 0), BAD_VALUE);
        due("bad i", d.observe(0, 0, 10), BAD_VALUE);
        due("bad i", d.observe(0, 0, -1), BAD_VALUE);
        due("the same again", d.observe(0, 0, 0), 3);
        due("observe", d.observe(0, 0, 0), 4);
        due("observe", d.observe(0, 0, 0), 5);
        due("observe", d.observe(0, 0, 0), 6);
        due("full", d.observe(0, 0, 0), FULL);
        due("full and bad", d.observe(0, 0, 10), BAD_VALUE);
        due("clearObservations", d.clearObservations(), 6);
    }

    // ---- promise 27

    private void clearObservations() {
        check.topic("promise 27");
        PowerDiagram d = withSites(0, 0, 0);
        d.observe(0, 0, 1);
        due("before", d.possibleWeights(0, 0), 0);
        due("clearObservations", d.clearObservations(), 1);
        due("after", d.possibleWeights(0, 0), 401);
        due("clearObservations", d.clearObservations(), 0);
        due("observe", d.observe(0, 0, 1), 1);
        d.undo();
        due("kept by undo", d.clearObservations(), 1);
    }

    // ---- promise 28

    private void duePossible(PowerDiagram d, int i, int smallest, int greatest) {
        due("number", d.possibleWeights(i, 0), greatest - smallest + 1);
        due("smallest", d.possibleWeights(i, 1), smallest);
        due("greatest", d.possibleWeights(i, 2), greatest);
    }

    private void possibleWeights() {
        check.topic("promise 28");
        PowerDiagram d = withSites(0, 10, 0, 20, 10, 0);
        duePossible(d, 0, 0, 400);
        d.observe(12, 0, 0);
        duePossible(d, 0, 80, 400);
        duePossible(d, 0, 80, 400);
        due("number for 1", d.possibleWeights(1, 0), 0);
        due("smallest for 1", d.possibleWeights(1, 1), NONE);
        due("greatest for 1", d.possibleWeights(1, 2), NONE);
        d.observe(13, 20, 1);
        duePossible(d, 0, 80, 119);
        d.setWeight(0, 100);
        duePossible(d, 1, 0, 20);
        d.observe(13, 0, 1);
        d.observe(12, 0, 1);
        due("against each other", d.possibleWeights(0, 0), 0);
        due("against each other", d.possibleWeights(0, 1), NONE);
        due("against each other", d.possibleWeights(1, 2), NONE);
        due("no site", d.possibleWeights(2, 0), NO_SUCH_INDEX);
        due("no site", d.possibleWeights(-1, 0), NO_SUCH_INDEX);
        due("no site, bad what", d.possibleWeights(2, 3), NO_SUCH_INDEX);
        due("bad what", d.possibleWeights(0, 3), BAD_VALUE);
        due("bad what", d.possibleWeights(0, -1), BAD_VALUE);
        PowerDiagram later = withSites(0, 10, 0);
        later.observe(20, 10, 1);
        due("of no site", later.possibleWeights(0, 0), 0);
        later.add(20, 10, 0);
        duePossible(later, 0, 0, 399);
        later.add(20, 10, 1);
        due("of another", later.possibleWeights(0, 0), 0);
        PowerDiagram one = withSites(10, 10, 5);
        one.observe(0, 0, 0);
        duePossible(one, 0, 0, 400);
        PowerDiagram exact = withSites(0, 10, 0, 20, 10, 0);
        exact.observe(20, 0, 0);
        duePossible(exact, 0, 400, 400);
    }

    // ---- promise 29

    private void runScript() {
        check.topic("promise 29");
        PowerDiagram d = withSites(0, 10, 0, 20, 10, 0);
        due("n 0", d.runScript(0, 0), BAD_VALUE);
        due("n 4", d.runScript(4, 0), BAD_VALUE);
        due("n LOW", d.runScript(LOW, 0), BAD_VALUE);
        due("n HIGH", d.runScript(HIGH, 0), BAD_VALUE);
        due("negative", d.runScript(1, -1), BAD_VALUE);
        due("negative", d.runScript(3, Long.MIN_VALUE), BAD_VALUE);
        due("6 digits", d.runScript(1, 100000), BAD_VALUE);
        due("11 digits", d.runScript(2, 10000000000L), BAD_VALUE);
        due("16 digits", d.runScript(3, 1000000000000000L), BAD_VALUE);
        due("most digits", d.runScript(3, Long.MAX_VALUE), BAD_VALUE);
        due("5 digits", d.runScript(1, 99999), 0);
        due("15 digits", d.runScript(3, 999999999999999L), 0);
        due("nothing", d.runScript(3, 0), 0);
        due("first group is 0", d.runScript(2, 40000), 0);
        due("first group is the highest", d.runScript(2, 4000000000L), 1);
        due("all", d.runScript(2, 4000040000L), NONE);
        due("three", d.runScript(3, 400004000040000L), NONE);
        due("third", d.runScript(3, 400004000070000L), 2);
        due("a copy", d.runScript(2, 1000010000L), NONE);
        due("a copy", d.siteCount(), 2);
        due("no sites left", d.runScript(3, 100001000040000L), 2);
        due("a copy each time", d.runScript(1, 11000), NONE);
        due("no action", d.undo(), 1);
    }

    private void dueScript(PowerDiagram d, long script, int want) {
        int groups = script >= 10000000000L ? 3 : script >= 100000L ? 2 : 1;
        due("script " + script, d.runScript(groups, script), want);
    }

    private void scriptCommands() {
        check.topic("promise 29, commands");
        PowerDiagram d = withSites(0, 10, 0, 20, 10, 0);
        dueScript(d, 12000, 0);
        dueScript(d, 10001, 0);
        dueScript(d, 10100, 0);
        dueScript(d, 20400, NONE);
        dueScript(d, 20401, 0);
        dueScript(d, 22000, 0);
        dueScript(d, 2040030000L, 1);
        dueScript(d, 2040031000L, NONE);
        dueScript(d, 204002100131000L, 2);
        PowerDiagram hidden = withSites(10, 10, 0, 0, 10, 100, 20, 10, 100);
        dueScript(hidden, 30000, NONE);
        dueScript(hidden, 30001, 0);
        dueScript(hidden, 30010, 0);
        dueScript(hidden, 33000, 0);
        dueScript(hidden, 31000, 0);
        dueScript(hidden, 2000130000L, 1);
        dueScript(d, 42020, NONE);
        dueScript(d, 42120, 0);
        dueScript(d, 42021, 0);
        dueScript(new PowerDiagram(), 40000, 0);
        dueScript(d, 4102050000L, NONE);
        dueScript(d, 4102051000L, 1);
        dueScript(d, 4100950000L, NONE);
        dueScript(d, 4100950001L, 1);
        dueScript(d, 50000, 0);
        dueScript(d, 59000, 0);
        dueScript(d, 411002000051000L, NONE);
        dueScript(d, 411002040051000L, NONE);
        dueScript(d, 2040041100L, NONE);
        dueScript(d, 204004202050000L, NONE);
        dueScript(d, 411001000051000L, 2);
        dueScript(d, 411001000050000L, 2);
        dueScript(d, 411004000051000L, 2);
        dueScript(d, 411004000050000L, NONE);
        dueScript(d, 60231, NONE);
        dueScript(d, 60232, 0);
        dueScript(d, 61210, NONE);
        dueScript(d, 61211, 0);
        dueScript(d, 62000, 0);
        dueScript(d, 2000161211L, 1);
        dueScript(d, 2100161211L, NONE);
        dueScript(d, 1000060441L, NONE);
        dueScript(d, 70000, 0);
        dueScript(d, 80000, 0);
        dueScript(d, 90000, 0);
        dueScript(d, 0, 0);
    }

    // ---- promise 30

    private void sample() {
        check.topic("promise 30");
        PowerDiagram d = withSites(0, 10, 0, 20, 10, 0);
        due("no site", d.sample(0, 2, 1), NO_SUCH_INDEX);
        due("no site", d.sample(0, -1, 1), NO_SUCH_INDEX);
        due("no site, bad m", d.sample(0, 2, 0), NO_SUCH_INDEX);
        due("bad m", d.sample(0, 0, 0), BAD_VALUE);
        due("bad m", d.sample(0, 0, 201), BAD_VALUE);
        due("bad m", d.sample(0, 0, LOW), BAD_VALUE);
        due("alone", withSites(0, 0, 0).sample(-7, 0, 200), 200);
        long[] seeds = {0, 1, -1, 42, Long.MIN_VALUE, Long.MAX_VALUE, 123456789123456789L};
        for (long seed : seeds) {
            for (int m = 1; m <= 200; m += 66) {
                long z = seed;
                int left = 0;
                for (int k = 0; k < m; k++) {
                    z = z * 6364136223846793005L + 1442695040888963407L;
                    int v = (int) ((z >>> 33) % 441);
                    left += v / 21 <= 10 ? 1 : 0;
                }
                due("sample(" + seed + ", 0, " + m + ")", d.sample(seed, 0, m), left);
                due("sample(" + seed + ", 1, " + m + ")", d.sample(seed, 1, m), m - left);
            }
        }
    }

    // ---- promise 31

    private void save() {
        check.topic("promise 31");
        PowerDiagram d = withSites(1, 2, 3, 4, 5, 6);
        due("save(2)", d.save(2), NO_SUCH_INDEX);
        due("save(-1)", d.save(-1), NO_SUCH_INDEX);
        due("save(HIGH)", d.save(HIGH), NO_SUCH_INDEX);
        due("save(0)", d.save(0), 2);
        d.remove(0);
        due("save(1)", d.save(1), 1);
        due("restore(0)", d.restore(0), 2);
        due("x", d.site(0, 0), 1);
        due("restore(1)", d.restore(1), 1);
        due("x", d.site(0, 0), 4);
        d.remove(0);
        due("save of nothing", d.save(0), 0);
        d.add(1, 1, 1);
        due("over it", d.restore(0), 0);
        due("siteCount", d.siteCount(), 0);
    }

    // ---- promise 32

    private void restore() {
        check.topic("promise 32");
        PowerDiagram d = withSites(1, 2, 3, 4, 5, 6);
        due("restore(2)", d.restore(2), NO_SUCH_INDEX);
        due("restore(-1)", d.restore(-1), NO_SUCH_INDEX);
        due("restore(0)", d.restore(0), NOT_POSSIBLE);
        due("undo", d.undo(), 1);
        d.save(1);
        due("restore(0)", d.restore(0), NOT_POSSIBLE);
        d.setWeight(0, 100);
        d.observe(20, 20, 1);
        write(d, "P0");
        due("restore(1)", d.restore(1), 1);
        due("w", d.site(0, 2), 3);
        due("undo", d.undo(), NOT_POSSIBLE);
        due("clearText", d.clearText(), 2);
        due("clearObservations", d.clearObservations(), 1);
        d.setWeight(0, 101);
        due("undo", d.undo(), 0);
        d.move(0, 20, 20);
        due("the slot keeps", d.restore(1), 1);
        due("x", d.site(0, 0), 1);
        due("restore is no action", d.undo(), NOT_POSSIBLE);
    }
}
