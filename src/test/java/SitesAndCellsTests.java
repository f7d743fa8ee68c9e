/** The boundary cases of 'SITES AND CELLS', sentence by sentence. */
public final class SitesAndCellsTests extends Section {
    private SitesAndCellsTests() {
    }

    public static void main(String[] args) {
        SitesAndCellsTests tests = new SitesAndCellsTests();
        tests.sites();
        tests.owners();
        tests.kindsOfCells();
        tests.corners();
        tests.neighbourhood();
        tests.sizes();
        tests.check.finish();
    }

    // ---- sites

    private void sites() {
        atMostTenSites();
        squareWithItsBorder();
        limitsOfASite();
        numbersAfterRemoval();
        onePositionForSeveral();
        newObjectHasNoSites();
        usedForManyCalls();
    }

    private void atMostTenSites() {
        sentence("A power diagram of at most 10 weighted sites");
        PowerDiagram d = new PowerDiagram();
        for (int k = 0; k < 10; k++) {
            due("add of site " + k, d.add(k, k, k), k);
        }
        due("add of an eleventh site", d.add(5, 5, 5), FULL);
        due("siteCount()", d.siteCount(), 10);
        due("site(9, 2)", d.site(9, 2), 9);
        due("site(10, 0)", d.site(10, 0), NO_SUCH_INDEX);
        due("remove(0)", d.remove(0), 9);
        due("add of a tenth site again", d.add(20, 20, 400), 9);
        due("add of an eleventh site again", d.add(5, 5, 5), FULL);
    }

    private void squareWithItsBorder() {
        sentence("The square consists of all points (x, y) with 0 <= x <= 20 and 0 <= y <= 20.");
        PowerDiagram d = withSites(0, 0, 0, 20, 20, 0);
        due("owner(0, 0)", d.owner(0, 0), 0);
        due("owner(20, 20)", d.owner(20, 20), 1);
        due("owner(0, 20)", d.owner(0, 20), 0);
        due("owner(20, 0)", d.owner(20, 0), 0);
        due("owner(20, 1)", d.owner(20, 1), 1);
        int[] outside = {-1, 21, LOW, HIGH};
        for (int out : outside) {
            due("owner(" + out + ", 0)", d.owner(out, 0), BAD_VALUE);
            due("owner(0, " + out + ")", d.owner(0, out), BAD_VALUE);
            due("powerDistance(0, " + out + ", 0)", d.powerDistance(0, out, 0), BAD_VALUE);
            due("powerDistance(0, 0, " + out + ")", d.powerDistance(0, 0, out), BAD_VALUE);
            due("alongSegment(" + out + ", 0, 0, 0)", d.alongSegment(out, 0, 0, 0), BAD_VALUE);
            due("alongSegment(0, " + out + ", 0, 0)", d.alongSegment(0, out, 0, 0), BAD_VALUE);
            due("alongSegment(0, 0, " + out + ", 0)", d.alongSegment(0, 0, out, 0), BAD_VALUE);
            due("alongSegment(0, 0, 0, " + out + ")", d.alongSegment(0, 0, 0, out), BAD_VALUE);
        }
        due("alongSegment of the top", d.alongSegment(0, 20, 20, 20), 3);
        due("alongSegment of a corner", d.alongSegment(20, 20, 20, 20), 2);
        dueCorners(withSites(20, 20, 0), 0, 0, 1, 0, 1, 20, 1, 0, 1, 20, 1, 20, 1, 0, 1, 20, 1);
    }

    private void limitsOfASite() {
        sentence("A site has a position (two integers from 0 to 20) and a weight (an integer from 0 to 400).");
        PowerDiagram d = withSites(0, 0, 0);
        due("add of the greatest values", d.add(20, 20, 400), 1);
        due("add of a mixture", d.add(0, 20, 0), 2);
        due("add of a mixture", d.add(20, 0, 400), 3);
        int[] beside = {-1, 21, LOW, HIGH};
        for (int out : beside) {
            due("add(" + out + ", 0, 0)", d.add(out, 0, 0), BAD_VALUE);
            due("add(0, " + out + ", 0)", d.add(0, out, 0), BAD_VALUE);
            due("move(0, " + out + ", 0)", d.move(0, out, 0), BAD_VALUE);
            due("move(0, 0, " + out + ")", d.move(0, 0, out), BAD_VALUE);
            due("conflicts(" + out + ", 0, 0)", d.conflicts(out, 0, 0), BAD_VALUE);
            due("conflicts(0, " + out + ", 0)", d.conflicts(0, out, 0), BAD_VALUE);
        }
        int[] besideWeights = {-1, 401, LOW, HIGH};
        for (int out : besideWeights) {
            due("add(0, 0, " + out + ")", d.add(0, 0, out), BAD_VALUE);
            due("setWeight(0, " + out + ")", d.setWeight(0, out), BAD_VALUE);
            due("conflicts(0, 0, " + out + ")", d.conflicts(0, 0, out), BAD_VALUE);
        }
        due("move to (20, 20)", d.move(0, 20, 20), 0);
        due("move to (0, 0)", d.move(0, 0, 0), 2020);
        due("setWeight(0, 400)", d.setWeight(0, 400), 0);
        due("setWeight(0, 0)", d.setWeight(0, 0), 400);
        dueSites(d, 0, 0, 0, 20, 20, 400, 0, 20, 0, 20, 0, 400);
    }

    private void numbersAfterRemoval() {
        sentence("When a site is removed, the numbers of the sites behind it become smaller by 1.");
        PowerDiagram d = withSites(1, 2, 3, 4, 5, 6, 7, 8, 9, 10, 11, 12);
        due("remove(0), the first", d.remove(0), 3);
        dueSites(d, 4, 5, 6, 7, 8, 9, 10, 11, 12);
        d.undo();
        due("remove(3), the last", d.remove(3), 3);
        dueSites(d, 1, 2, 3, 4, 5, 6, 7, 8, 9);
        d.undo();
        due("remove(2), between", d.remove(2), 3);
        dueSites(d, 1, 2, 3, 4, 5, 6, 10, 11, 12);
        due("add, the next number", d.add(13, 14, 15), 3);
        dueSites(d, 1, 2, 3, 4, 5, 6, 10, 11, 12, 13, 14, 15);
        d.move(1, 20, 0);
        d.setWeight(2, 99);
        dueSites(d, 1, 2, 3, 20, 0, 6, 10, 11, 99, 13, 14, 15);
        PowerDiagram ten = tenSites();
        for (int left = 9; left >= 0; left--) {
            due("remove(0) of the rest", ten.remove(0), left);
            due("first of the rest", ten.site(0, 0), left == 0 ? NO_SUCH_INDEX : 20 - 2 * left);
        }
        due("remove(0) of none", ten.remove(0), NO_SUCH_INDEX);
    }

    private void onePositionForSeveral() {
        sentence("Several sites may have the same position.");
        PowerDiagram d = new PowerDiagram();
        for (int k = 0; k < 10; k++) {
            due("add(7, 7, 30)", d.add(7, 7, 30), k);
        }
        due("owner(7, 7)", d.owner(7, 7), 0);
        due("owner(0, 20)", d.owner(0, 20), 0);
        due("hiddenSites()", d.hiddenSites(), 0);
        due("neighbours(0)", d.neighbours(0), 1022);
        due("neighbours(9)", d.neighbours(9), 511);
        due("triangleCount()", d.triangleCount(), 0);
        due("alongSegment(0, 0, 0, 0)", d.alongSegment(0, 0, 0, 0), 1023);
        due("cornerCount(9)", d.cornerCount(9), 4);
        d.setWeight(9, 31);
        due("owner(7, 7)", d.owner(7, 7), 9);
        due("hiddenSites()", d.hiddenSites(), 511);
        due("neighbours(9)", d.neighbours(9), 0);
        due("alongSegment(0, 0, 20, 20)", d.alongSegment(0, 0, 20, 20), 512);
    }

    private void newObjectHasNoSites() {
        sentence("A new object has no sites.");
        PowerDiagram d = new PowerDiagram();
        due("siteCount()", d.siteCount(), 0);
        due("site(0, 0)", d.site(0, 0), NO_SUCH_INDEX);
        due("powerDistance(0, 0, 0)", d.powerDistance(0, 0, 0), NO_SUCH_INDEX);
        due("owner(20, 20)", d.owner(20, 20), NONE);
        due("size(0)", d.size(0), NO_SUCH_INDEX);
        due("remove(0)", d.remove(0), NO_SUCH_INDEX);
        due("move(0, 0, 0)", d.move(0, 0, 0), NO_SUCH_INDEX);
        due("setWeight(0, 0)", d.setWeight(0, 0), NO_SUCH_INDEX);
        due("cornerCount(0)", d.cornerCount(0), NO_SUCH_INDEX);
        due("cornerNumerator(0, 0, 0)", d.cornerNumerator(0, 0, 0), NO_SUCH_INDEX);
        due("cornerDenominator(0, 0, 0)", d.cornerDenominator(0, 0, 0), NO_SUCH_INDEX);
        due("hiddenSites()", d.hiddenSites(), 0);
        due("neighbours(0)", d.neighbours(0), NO_SUCH_INDEX);
        due("isTriangle(0, 0, 0)", d.isTriangle(0, 0, 0), NO_SUCH_INDEX);
        due("triangleCount()", d.triangleCount(), 0);
        due("conflicts(0, 0, 0)", d.conflicts(0, 0, 0), 0);
        due("alongSegment(0, 0, 20, 20)", d.alongSegment(0, 0, 20, 20), 0);
        due("weightForSize(0, 0)", d.weightForSize(0, 0), NO_SUCH_INDEX);
        due("possibleWeights(0, 0)", d.possibleWeights(0, 0), NO_SUCH_INDEX);
        due("runScript(1, 40000)", d.runScript(1, 40000), 0);
        due("sample(0, 0, 1)", d.sample(0, 0, 1), NO_SUCH_INDEX);
        due("save(0)", d.save(0), 0);
    }

    private void usedForManyCalls() {
        sentence("An object is used for at most 512 calls after it has been made.");
        PowerDiagram d = new PowerDiagram();
        d.add(10, 10, 0);
        for (int call = 2; call <= 497; call++) {
            due("setWeight in call " + call, d.setWeight(0, call % 401), call == 2 ? 0 : (call - 1) % 401);
        }
        for (int left = 13; left >= 0; left--) {
            due("undo", d.undo(), left);
        }
        due("the 512th call", d.site(0, 2), 483 % 401);
    }

    // ---- owners

    private void owners() {
        powerBelowZero();
        smallestNumberOwns();
        hiddenSiteOwns();
        greaterTwinOwnsNothing();
    }

    private void powerBelowZero() {
        sentence("The power distance is the square of the distance to the position, minus the weight.");
        PowerDiagram d = withSites(0, 0, 400, 20, 20, 0, 5, 9, 17);
        due("the least", d.powerDistance(0, 0, 0), 600);
        due("the greatest", d.powerDistance(1, 0, 0), 1800);
        due("0", d.powerDistance(0, 20, 0), 1000);
        due("0", d.powerDistance(0, 0, 20), 1000);
        due("below 0", d.powerDistance(2, 1, 9), 999);
        due("above 0", d.powerDistance(2, 2, 6), 1001);
        due("on the other side", d.powerDistance(2, 8, 12), 1001);
    }

    private void smallestNumberOwns() {
        sentence("The owner is the site with the smallest power distance; among several, the one with the smallest number.");
        PowerDiagram four = fourCorners(0);
        due("four with the same", four.owner(10, 10), 0);
        due("two with the same", four.owner(20, 10), 1);
        due("two with the same", four.owner(10, 20), 2);
        four.setWeight(3, 1);
        due("the greatest number alone", four.owner(10, 10), 3);
        due("size(3)", four.size(3), 11 * 11);
        four.setWeight(3, 0);
        four.remove(0);
        due("the next of them", four.owner(10, 10), 0);
        PowerDiagram ten = new PowerDiagram();
        for (int k = 0; k < 10; k++) {
            ten.add(7, 7, 30);
        }
        due("ten with the same", ten.size(0), 441);
        due("ten with the same", ten.size(9), 0);
    }

    private void hiddenSiteOwns() {
        sentence("So a hidden site can own a point.");
        PowerDiagram d = hiddenBetween();
        due("hiddenSites()", d.hiddenSites(), 1);
        due("owner(10, 0)", d.owner(10, 0), 0);
        due("owner(10, 20)", d.owner(10, 20), 0);
        due("size(0)", d.size(0), 21);
        due("size(1)", d.size(1), 210);
        due("size(2)", d.size(2), 210);
        PowerDiagram behind = withSites(0, 10, 100, 20, 10, 100, 10, 10, 0);
        due("hiddenSites() with it behind", behind.hiddenSites(), 4);
        due("owner(10, 0) with it behind", behind.owner(10, 0), 0);
        due("size(2) with it behind", behind.size(2), 0);
    }

    private void greaterTwinOwnsNothing() {
        sentence("The greater one of two sites with the same position and weight owns nothing.");
        PowerDiagram d = withSites(15, 5, 50, 5, 5, 50, 15, 5, 50);
        due("size(0)", d.size(0), 11 * 21);
        due("size(1)", d.size(1), 10 * 21);
        due("size(2)", d.size(2), 0);
        due("owner(15, 5)", d.owner(15, 5), 0);
        due("hiddenSites()", d.hiddenSites(), 0);
        d.remove(0);
        due("size(1) when it is alone", d.size(1), 210);
    }

    // ---- cells

    private void kindsOfCells() {
        cellsHaveCommonPoints();
        emptyCells();
        pointInACorner();
        pointOnASide();
        pointInside();
        pointBetweenLatticePoints();
        segments();
        segmentBetweenLatticePoints();
        segmentOnASide();
        narrowPolygon();
    }

    private void cellsHaveCommonPoints() {
        sentence("All points of the square to which no other site has a smaller power distance; cells may have common points.");
        PowerDiagram d = withSites(0, 10, 0, 20, 10, 0);
        due("on the border", d.alongSegment(10, 4, 10, 4), 3);
        due("along the border", d.alongSegment(10, 0, 10, 20), 3);
        due("up to the border", d.alongSegment(0, 0, 10, 4), 3);
        due("from the border on", d.alongSegment(10, 4, 20, 0), 3);
        due("before the border", d.alongSegment(0, 0, 9, 4), 1);
        due("behind the border", d.alongSegment(11, 4, 20, 0), 2);
        due("four cells", fourCorners(3).alongSegment(10, 10, 10, 10), 15);
    }

    private void dueHidden(PowerDiagram d, int i) {
        due("hiddenSites() has " + i, d.hiddenSites() >> i & 1, 1);
        due("cornerCount(" + i + ")", d.cornerCount(i), 0);
        due("cornerNumerator(" + i + ", 0, 0)", d.cornerNumerator(i, 0, 0), NO_SUCH_INDEX);
        due("cornerDenominator(" + i + ", 0, 1)", d.cornerDenominator(i, 0, 1), NO_SUCH_INDEX);
        due("neighbours(" + i + ")", d.neighbours(i), 0);
        for (int j = 0; j < d.siteCount(); j++) {
            due("neighbours(" + j + ") has " + i, d.neighbours(j) >> i & 1, 0);
        }
        due("a script with command 3", d.runScript(1, 30000 + 1000 * i), NONE);
    }

    private void dueNowhere(PowerDiagram d, int i) {
        for (int x = 0; x <= 20; x++) {
            due("segment at x = " + x + " has " + i, d.alongSegment(x, 0, x, 20) >> i & 1, 0);
        }
        due("a diagonal has " + i, d.alongSegment(0, 0, 20, 20) >> i & 1, 0);
        due("a diagonal has " + i, d.alongSegment(0, 20, 20, 0) >> i & 1, 0);
        due("the bottom has " + i, d.alongSegment(0, 0, 20, 0) >> i & 1, 0);
        due("size(" + i + ")", d.size(i), 0);
    }

    private void emptyCells() {
        sentence("A cell is empty.");
        PowerDiagram lighter = withSites(3, 3, 0, 3, 3, 1);
        dueHidden(lighter, 0);
        dueNowhere(lighter, 0);
        // Site 1 would have to lie on both sides of a strip.
        PowerDiagram between = withSites(0, 10, 100, 10, 10, 0, 20, 10, 101);
        dueHidden(between, 1);
        dueNowhere(between, 1);
        // The border x = 30 lies outside the square.
        PowerDiagram outside = withSites(20, 10, 0, 10, 10, 300);
        dueHidden(outside, 0);
        dueNowhere(outside, 0);
        due("cornerCount(1)", outside.cornerCount(1), 4);
    }

    private void pointInACorner() {
        sentence("A cell is a single point. (a corner of the square)");
        // The border is x + y = 40.
        PowerDiagram d = withSites(20, 20, 0, 10, 10, 200);
        dueHidden(d, 0);
        due("size(0)", d.size(0), 1);
        due("owner(20, 20)", d.owner(20, 20), 0);
        due("a segment that ends there", d.alongSegment(0, 0, 20, 20), 3);
        due("that point", d.alongSegment(20, 20, 20, 20), 3);
        due("the right side", d.alongSegment(20, 0, 20, 20), 3);
        due("a segment that ends before it", d.alongSegment(20, 0, 20, 19), 2);
        d.setWeight(0, 1);
        due("hiddenSites() with a corner cut off", d.hiddenSites(), 0);
        due("cornerCount(0) with a corner cut off", d.cornerCount(0), 3);
        due("cornerCount(1) with a corner cut off", d.cornerCount(1), 5);
    }

    private void pointOnASide() {
        sentence("A cell is a single point. (on a side of the square)");
        // Site 0 has y >= 30 - x, y >= x + 10 and y <= 20.
        PowerDiagram d = withSites(10, 20, 0, 0, 10, 200, 20, 10, 200);
        dueHidden(d, 0);
        due("size(0)", d.size(0), 1);
        due("owner(10, 20)", d.owner(10, 20), 0);
        due("the top", d.alongSegment(0, 20, 20, 20), 7);
        due("a segment to it", d.alongSegment(10, 0, 10, 20), 7);
        due("a segment to before it", d.alongSegment(10, 0, 10, 19), 6);
        due("neighbours(1)", d.neighbours(1), 4);
    }

    private void pointInside() {
        sentence("A cell is a single point. (inside the square)");
        PowerDiagram d = withSites(10, 10, 0, 0, 0, 200, 20, 0, 200, 20, 20, 200, 0, 20, 200);
        dueHidden(d, 0);
        due("size(0)", d.size(0), 1);
        due("owner(10, 10)", d.owner(10, 10), 0);
        due("a diagonal", d.alongSegment(0, 0, 20, 20), 31);
        due("below it", d.alongSegment(0, 9, 20, 9), 6);
        due("neighbours(1)", d.neighbours(1), 4 + 16);
        due("cornerCount(1)", d.cornerCount(1), 4);
        d.setWeight(0, 1);
        due("hiddenSites() with a small square", d.hiddenSites(), 0);
        due("cornerCount(0) with a small square", d.cornerCount(0), 4);
        due("neighbours(0) with a small square", d.neighbours(0), 30);
        due("size(0) with a small square", d.size(0), 1);
    }

    private void pointBetweenLatticePoints() {
        sentence("A cell is a single point. (not a lattice point)");
        // At (201 / 20, 7) all have the same power distance, and site 0 lies within the triangle of the others.
        PowerDiagram d = withSites(10, 7, 0, 0, 0, 150, 20, 0, 148, 10, 20, 169);
        dueHidden(d, 0);
        due("size(0)", d.size(0), 0);
        due("through it", d.alongSegment(0, 7, 20, 7), 15);
        due("below it", d.alongSegment(0, 6, 20, 6), 6);
        due("beside it", d.alongSegment(10, 0, 10, 20), 2 + 8);
        due("isTriangle(1, 2, 3)", d.isTriangle(1, 2, 3), 1);
        due("isTriangle(0, 1, 2)", d.isTriangle(0, 1, 2), 1);
        due("triangleCount()", d.triangleCount(), 4);
    }

    private void segments() {
        sentence("A cell is a segment. (inside the square)");
        PowerDiagram d = hiddenBetween();
        dueHidden(d, 0);
        due("across", d.alongSegment(0, 3, 20, 3), 7);
        due("along", d.alongSegment(10, 0, 10, 20), 7);
        due("a point of it", d.alongSegment(10, 13, 10, 13), 7);
        due("neighbours(1)", d.neighbours(1), 4);
    }

    private void segmentBetweenLatticePoints() {
        sentence("A cell is a segment. (without lattice points)");
        // Site 0 has 201 / 20 <= x <= (300 - 99) / 20.
        PowerDiagram d = withSites(10, 10, 0, 0, 10, 101, 20, 10, 99);
        dueHidden(d, 0);
        due("size(0)", d.size(0), 0);
        due("across", d.alongSegment(0, 3, 20, 3), 7);
        due("left of it", d.alongSegment(10, 0, 10, 20), 2);
        due("right of it", d.alongSegment(11, 0, 11, 20), 4);
        d.setWeight(2, 100);
        dueHidden(d, 0);
        dueNowhere(d, 0);
        due("across when it is empty", d.alongSegment(0, 3, 20, 3), 6);
    }

    private void segmentOnASide() {
        sentence("A cell is a segment. (on a side of the square)");
        PowerDiagram d = withSites(20, 10, 100, 10, 10, 200);
        dueHidden(d, 0);
        due("size(0)", d.size(0), 21);
        due("the right side", d.alongSegment(20, 0, 20, 20), 3);
        due("to the right side", d.alongSegment(3, 5, 20, 6), 3);
        due("before it", d.alongSegment(19, 0, 19, 20), 2);
        dueCorners(d, 1, 0, 1, 0, 1, 20, 1, 0, 1, 20, 1, 20, 1, 0, 1, 20, 1);
    }

    private void narrowPolygon() {
        sentence("A site is hidden if its cell is not a polygon (with an area greater than 0).");
        // Site 0 has 201 / 20 <= x <= 202 / 20, which is no lattice point's x.
        PowerDiagram d = withSites(10, 10, 0, 0, 10, 101, 20, 10, 98);
        due("hiddenSites()", d.hiddenSites(), 0);
        due("size(0)", d.size(0), 0);
        dueCorners(d, 0, 201, 20, 0, 1, 101, 10, 0, 1, 101, 10, 20, 1, 201, 20, 20, 1);
        due("neighbours(0)", d.neighbours(0), 6);
        due("neighbours(1)", d.neighbours(1), 1);
        due("neighbours(2)", d.neighbours(2), 1);
        due("a script with command 3", d.runScript(1, 30000), 0);
    }

    // ---- corners

    private void corners() {
        noStraightCorners();
        cornersBeginWithTheSmallest();
        mostCorners();
        cornersOfSeveralInTurn();
        lowestTerms();
        coordinateZero();
    }

    private void noStraightCorners() {
        sentence("The corners of a polygon are its vertices with an interior angle of less than 180 degrees.");
        // The border of sites 0 and 2 only touches the cell of site 0, in (10, 10).
        dueCorners(fourCorners(0), 0, 0, 1, 0, 1, 10, 1, 0, 1, 10, 1, 10, 1, 0, 1, 10, 1);
        // The border of sites 0 and 1 is the side x = 20.
        dueCorners(withSites(10, 10, 200, 20, 10, 100), 0, 0, 1, 0, 1, 20, 1, 0, 1, 20, 1, 20, 1, 0, 1, 20, 1);
        // Two sites have the same border x = 10 with site 1.
        dueCorners(hiddenBetween(), 1, 0, 1, 0, 1, 10, 1, 0, 1, 10, 1, 20, 1, 0, 1, 20, 1);
        // The border x + y = 20 goes through two corners of the square.
        dueCorners(withSites(0, 0, 0, 20, 20, 0), 0, 0, 1, 0, 1, 20, 1, 0, 1, 0, 1, 20, 1);
    }

    private void cornersBeginWithTheSmallest() {
        sentence("In counterclockwise order, beginning with the one with the smallest x, and among several with the smallest y.");
        PowerDiagram four = fourCorners(0);
        dueCorners(four, 1, 10, 1, 0, 1, 20, 1, 0, 1, 20, 1, 10, 1, 10, 1, 10, 1);
        dueCorners(four, 2, 10, 1, 10, 1, 20, 1, 10, 1, 20, 1, 20, 1, 10, 1, 20, 1);
        dueCorners(four, 3, 0, 1, 10, 1, 10, 1, 10, 1, 10, 1, 20, 1, 0, 1, 20, 1);
        four.add(10, 10, 0);
        dueCorners(four, 4, 0, 1, 10, 1, 10, 1, 0, 1, 20, 1, 10, 1, 10, 1, 20, 1);
        // The triangle at the right has its smallest x above.
        PowerDiagram half = withSites(0, 0, 0, 20, 20, 0);
        dueCorners(half, 1, 0, 1, 20, 1, 20, 1, 0, 1, 20, 1, 20, 1);
        // The triangle at the right below has its smallest x in (0, 0).
        dueCorners(withSites(20, 0, 0, 0, 20, 0), 0, 0, 1, 0, 1, 20, 1, 0, 1, 20, 1, 20, 1);
        dueCorners(withSites(20, 0, 0, 0, 20, 0), 1, 0, 1, 0, 1, 20, 1, 20, 1, 0, 1, 20, 1);
    }

    private void mostCorners() {
        sentence("A cell is a convex polygon. (with many corners)");
        // Nine sites around a tenth one; each of them cuts a side.
        PowerDiagram d = withSites(10, 10, 0, 15, 10, 0, 14, 13, 0, 11, 15, 0, 8, 15, 0, 5, 12, 0, 5, 9, 0, 7, 6, 0, 10, 5, 0,
            14, 7, 0);
        due("cornerCount(0)", d.cornerCount(0), 9);
        due("neighbours(0)", d.neighbours(0), 1022);
        dueCorners(d, 0, 73, 10, 21, 2, 261, 34, 293, 34, 55, 6, 15, 2, 45, 4, 15, 2, 25, 2, 55, 6, 25, 2, 65, 6,
            387, 34, 419, 34, 19, 2, 127, 10, 111, 14, 169, 14);
        due("up of 9", d.cornerNumerator(0, 9, 0), NO_SUCH_INDEX);
        due("down of 9", d.cornerDenominator(0, 9, 0), NO_SUCH_INDEX);
        // Each corner of the square is cut off.
        PowerDiagram eight = withSites(10, 10, 60, 0, 0, 30, 20, 0, 30, 0, 20, 30, 20, 20, 30);
        dueCorners(eight, 0, 0, 1, 17, 2, 17, 2, 0, 1, 23, 2, 0, 1, 20, 1, 17, 2, 20, 1, 23, 2, 23, 2, 20, 1, 17, 2, 20, 1,
            0, 1, 23, 2);
    }

    private void cornersOfSeveralInTurn() {
        sentence("The corners of a polygon. (asked of several sites in turn)");
        PowerDiagram d = withSites(13, 8, 20, 3, 4, 31, 19, 17, 7, 16, 2, 40, 9, 18, 0);
        for (int round = 0; round < 2; round++) {
            dueCorners(d, 4, 0, 1, 411, 28, 711, 116, 699, 58, 643, 48, 359, 24, 139, 10, 20, 1, 0, 1, 20, 1);
            dueCorners(d, 2, 643, 48, 359, 24, 20, 1, 95, 9, 20, 1, 20, 1, 139, 10, 20, 1);
            dueCorners(d, 0, 711, 116, 699, 58, 671, 72, 587, 144, 20, 1, 113, 12, 20, 1, 95, 9, 643, 48, 359, 24);
            dueCorners(d, 1, 0, 1, 0, 1, 113, 13, 0, 1, 671, 72, 587, 144, 711, 116, 699, 58, 0, 1, 411, 28);
            dueCorners(d, 3, 113, 13, 0, 1, 20, 1, 0, 1, 20, 1, 113, 12, 671, 72, 587, 144);
        }
        everyTwoInTurn(13, 8, 20, 3, 4, 31, 19, 17, 7, 16, 2, 40, 9, 18, 0);
        everyTwoInTurn(10, 10, 60, 0, 0, 30, 20, 0, 30, 0, 20, 30, 20, 20, 30);
        everyTwoInTurn(10, 10, 0, 15, 10, 0, 14, 13, 0, 11, 15, 0, 8, 15, 0, 5, 12, 0, 5, 9, 0, 7, 6, 0, 10, 5, 0);
        sentence("Among several with the smallest x the one with the smallest y.");
        PowerDiagram strips = withSites(10, 18, 1, 10, 9, 0, 10, 2, 3);
        for (int round = 0; round < 2; round++) {
            dueCorners(strips, 2, 0, 1, 0, 1, 20, 1, 0, 1, 20, 1, 40, 7, 0, 1, 40, 7);
            dueCorners(strips, 1, 0, 1, 40, 7, 20, 1, 40, 7, 20, 1, 121, 9, 0, 1, 121, 9);
            dueCorners(strips, 0, 0, 1, 121, 9, 20, 1, 121, 9, 20, 1, 20, 1, 0, 1, 20, 1);
        }
    }

    /** What was asked before makes no difference: the last corner of one site, then the corners of the other. */
    private void everyTwoInTurn(int... values) {
        for (int j = 0; j < values.length / 3; j++) {
            String alone = cornersOf(withSites(values), j, j);
            for (int i = 0; i < values.length / 3; i++) {
                check.dueTrue("corners of " + j + " after " + i, cornersOf(withSites(values), i, j).equals(alone));
            }
        }
    }

    private static String cornersOf(PowerDiagram d, int before, int i) {
        StringBuilder corners = new StringBuilder();
        for (int k = 0; k < d.cornerCount(i); k++) {
            d.cornerNumerator(before, d.cornerCount(before) - 1, 0);
            corners.append(d.cornerNumerator(i, k, 0)).append(' ').append(d.cornerNumerator(i, k, 1)).append(' ');
        }
        return corners.toString();
    }

    private void lowestTerms() {
        sentence("This coordinate of the corner in lowest terms.");
        // The border is 40 x = 400 + wA - wB.
        int[][] weightAndFraction = {{0, 10, 1}, {1, 401, 40}, {2, 201, 20}, {4, 101, 10}, {5, 81, 8}, {8, 51, 5}, {10, 41, 4},
            {20, 21, 2}, {40, 11, 1}, {400, 20, 1}, {399, 799, 40}};
        for (int[] row : weightAndFraction) {
            PowerDiagram d = withSites(0, 10, row[0], 20, 10, 0);
            due("up with weight " + row[0], d.cornerNumerator(0, 1, 0), row[1]);
            due("down with weight " + row[0], d.cornerDenominator(0, 1, 0), row[2]);
        }
        // 36 x + 38 y = 685 and 38 x + 2 y = 361 meet in (12348 / 1372, 13034 / 1372).
        PowerDiagram sloping = withSites(0, 0, 0, 18, 19, 0, 19, 1, 1);
        int k = cornerAt(sloping, 1, 9);
        due("up of the corner (9, 19 / 2)", sloping.cornerNumerator(1, k, 1), 19);
        due("down of the corner (9, 19 / 2)", sloping.cornerDenominator(1, k, 1), 2);
    }

    /** The corner whose x is this whole number; -1 if there is none. */
    private static int cornerAt(PowerDiagram d, int i, int x) {
        for (int k = 0; k < d.cornerCount(i); k++) {
            if (d.cornerNumerator(i, k, 0) == x && d.cornerDenominator(i, k, 0) == 1) {
                return k;
            }
        }
        return -1;
    }

    private void coordinateZero() {
        sentence("0 if the coordinate is 0; 1 if the coordinate is 0.");
        // Borders whose numbers have common divisors other than 1 where the coordinate is 0.
        PowerDiagram d = withSites(0, 0, 0, 20, 20, 0, 20, 0, 40);
        for (int i = 0; i < 3; i++) {
            for (int k = 0; k < d.cornerCount(i); k++) {
                for (int axis = 0; axis < 2; axis++) {
                    boolean isZero = d.cornerNumerator(i, k, axis) == 0;
                    due("down is 1 or not 0", isZero && d.cornerDenominator(i, k, axis) != 1 ? 1 : 0, 0);
                    due("down is 1 or more", d.cornerDenominator(i, k, axis) >= 1 ? 1 : 0, 1);
                }
            }
        }
        // x + y = 20 meets the sides of the square in (20, 0) and (0, 20).
        PowerDiagram half = withSites(0, 0, 0, 20, 20, 0);
        due("y up in (20, 0)", half.cornerNumerator(0, 1, 1), 0);
        due("y down in (20, 0)", half.cornerDenominator(0, 1, 1), 1);
        due("x up in (0, 20)", half.cornerNumerator(0, 2, 0), 0);
        due("x down in (0, 20)", half.cornerDenominator(0, 2, 0), 1);
    }

    // ---- neighbours

    private void neighbourhood() {
        neitherIsHidden();
        commonPointIsNotEnough();
        commonPolygon();
    }

    private void neitherIsHidden() {
        sentence("Two sites are neighbours if neither is hidden.");
        PowerDiagram between = hiddenBetween();
        due("neighbours of a segment", between.neighbours(0), 0);
        due("neighbours over a segment", between.neighbours(1), 4);
        due("neighbours over a segment", between.neighbours(2), 2);
        PowerDiagram side = withSites(10, 10, 200, 20, 10, 100);
        due("neighbours beside a segment on the side", side.neighbours(0), 0);
        due("neighbours of a segment on the side", side.neighbours(1), 0);
        PowerDiagram twins = withSites(10, 10, 0, 10, 10, 0, 0, 10, 100, 20, 10, 100);
        due("hidden twins", twins.hiddenSites(), 3);
        due("neighbours of a hidden twin", twins.neighbours(0), 0);
        due("neighbours of a hidden twin", twins.neighbours(1), 0);
        due("neighbours over hidden twins", twins.neighbours(2), 8);
    }

    private void commonPointIsNotEnough() {
        sentence("Their cells have a common segment (of a length greater than 0).");
        due("a common point inside", fourCorners(0).neighbours(0), 2 + 8);
        // Sites 0 and 1 have the common point (10, 20) alone, on the top.
        PowerDiagram top = withSites(0, 20, 0, 20, 20, 0, 10, 0, 300);
        due("hiddenSites()", top.hiddenSites(), 0);
        due("alongSegment(10, 20, 10, 20)", top.alongSegment(10, 20, 10, 20), 7);
        due("neighbours(0)", top.neighbours(0), 4);
        due("neighbours(1)", top.neighbours(1), 4);
        due("neighbours(2)", top.neighbours(2), 3);
        // Now the common segment has a length of 1 / 40.
        top.setWeight(2, 299);
        due("neighbours(0) with a short segment", top.neighbours(0), 2 + 4);
        due("neighbours(1) with a short segment", top.neighbours(1), 1 + 4);
        top.setWeight(2, 301);
        due("neighbours(0) without a common point", top.neighbours(0), 4);
        due("neighbours(1) without a common point", top.neighbours(1), 4);
    }

    private void commonPolygon() {
        sentence("Or a common polygon (which happens only for sites with the same position and weight).");
        PowerDiagram d = withSites(5, 5, 7, 5, 5, 7, 15, 5, 7, 5, 5, 7);
        due("neighbours(0)", d.neighbours(0), 2 + 4 + 8);
        due("neighbours(1)", d.neighbours(1), 1 + 4 + 8);
        due("neighbours(2)", d.neighbours(2), 1 + 2 + 8);
        due("neighbours(3)", d.neighbours(3), 1 + 2 + 4);
        due("without any border", withSites(5, 5, 7, 5, 5, 7).neighbours(1), 1);
        d.setWeight(1, 6);
        due("neighbours(0) with a lighter one", d.neighbours(0), 4 + 8);
        due("neighbours(1), the lighter one", d.neighbours(1), 0);
        d.setWeight(1, 8);
        due("neighbours(1), the heavier one", d.neighbours(1), 4);
        due("neighbours(2)", d.neighbours(2), 2);
    }

    // ---- sizes

    private void sizes() {
        sentence("A lattice point is a point of the square with integer coordinates; there are 441.");
        due("alone", withSites(13, 2, 1).size(0), 441);
        PowerDiagram d = withSites(0, 0, 0, 20, 20, 0, 20, 0, 400);
        due("all together", d.size(0) + d.size(1) + d.size(2), 441);
        PowerDiagram ten = tenSites();
        int together = 0;
        for (int i = 0; i < 10; i++) {
            together += ten.size(i);
        }
        due("ten together", together, 441);
        sentence("The size of a site is the number of lattice points that it owns.");
        due("one point", withSites(10, 10, 0, 0, 0, 200, 20, 0, 200, 20, 20, 200, 0, 20, 200).size(0), 1);
        due("none", withSites(3, 3, 0, 3, 3, 1).size(0), 0);
        due("ties go to the smaller number", withSites(0, 10, 0, 20, 10, 0).size(0), 231);
        due("ties do not go to the greater number", withSites(20, 10, 0, 0, 10, 0).size(1), 210);
    }
}
