/** The boundary cases of 'TRIANGLES' and of the segments, sentence by sentence. */
public final class TrianglesTests extends Section {
    private TrianglesTests() {
    }

    public static void main(String[] args) {
        TrianglesTests tests = new TrianglesTests();
        tests.noRadicalCentre();
        tests.equalPowerKeepsATriangle();
        tests.centreOutsideTheSquare();
        tests.anyOrderOfSites();
        tests.siteDoesNotExist();
        tests.countsSets();
        tests.conflictsNeedLess();
        tests.conflictsOutsideTheSquare();
        tests.conflictsChangeNothing();
        tests.conflictsOfTenSites();
        tests.segmentOfOnePoint();
        tests.segmentWithHiddenSites();
        tests.segmentThatTouches();
        tests.segmentDirections();
        tests.segmentAfterRemoval();
        tests.check.finish();
    }

    private void dueTriangle(PowerDiagram d, int i, int j, int k, int want) {
        due("isTriangle(" + i + ", " + j + ", " + k + ")", d.isTriangle(i, j, k), want);
    }

    private void noRadicalCentre() {
        sentence("Three sites whose positions are not on one straight line have a radical centre.");
        dueTriangle(withSites(0, 0, 0, 10, 0, 7, 20, 0, 0), 0, 1, 2, 0);
        dueTriangle(withSites(3, 0, 0, 3, 10, 7, 3, 20, 0), 0, 1, 2, 0);
        dueTriangle(withSites(0, 0, 5, 10, 10, 0, 20, 20, 9), 0, 1, 2, 0);
        dueTriangle(withSites(0, 20, 5, 6, 12, 0, 9, 8, 9), 2, 0, 1, 0);
        dueTriangle(withSites(0, 20, 5, 6, 12, 0, 9, 7, 9), 2, 0, 1, 1);
        sentence("Three sites whose positions are not on one straight line. (two or three with the same position)");
        PowerDiagram twins = withSites(4, 4, 9, 4, 4, 9, 15, 3, 0);
        dueTriangle(twins, 0, 1, 2, 0);
        dueTriangle(twins, 2, 1, 0, 0);
        dueTriangle(twins, 1, 2, 0, 0);
        dueTriangle(withSites(4, 4, 9, 4, 4, 9, 4, 4, 9), 0, 1, 2, 0);
        sentence("Otherwise 0 (also if they have no radical centre). (a site named twice or thrice)");
        PowerDiagram d = withSites(0, 0, 0, 20, 0, 0, 0, 20, 0);
        dueTriangle(d, 0, 1, 2, 1);
        dueTriangle(d, 0, 0, 1, 0);
        dueTriangle(d, 0, 1, 0, 0);
        dueTriangle(d, 1, 0, 0, 0);
        dueTriangle(d, 2, 2, 2, 0);
        due("triangleCount of sites in a line", withSites(0, 0, 5, 10, 10, 0, 20, 20, 9, 5, 5, 5).triangleCount(), 0);
        due("conflicts of sites in a line", withSites(0, 0, 5, 10, 10, 0, 20, 20, 9, 5, 5, 5).conflicts(9, 3, 400), 0);
    }

    private void equalPowerKeepsATriangle() {
        sentence("They form a triangle if no other site has a smaller power distance to their radical centre.");
        PowerDiagram four = fourCorners(0);
        for (int left = 0; left < 4; left++) {
            dueTriangle(four, left == 0 ? 1 : 0, left <= 1 ? 2 : 1, left <= 2 ? 3 : 2, 1);
        }
        four.setWeight(1, 1);
        dueTriangle(four, 0, 2, 3, 0);
        dueTriangle(four, 0, 1, 2, 0);
        dueTriangle(four, 0, 1, 3, 1);
        dueTriangle(four, 1, 2, 3, 1);
        PowerDiagram twin = withSites(0, 0, 3, 20, 0, 3, 0, 20, 3, 0, 0, 3);
        dueTriangle(twin, 0, 1, 2, 1);
        dueTriangle(twin, 3, 1, 2, 1);
        twin.setWeight(3, 4);
        dueTriangle(twin, 0, 1, 2, 0);
        dueTriangle(twin, 3, 1, 2, 1);
        PowerDiagram hidden = withSites(10, 7, 0, 0, 0, 150, 20, 0, 148, 10, 20, 169);
        dueTriangle(hidden, 1, 2, 3, 1);
        hidden.setWeight(0, 1);
        dueTriangle(hidden, 1, 2, 3, 0);
        dueTriangle(hidden, 0, 1, 2, 1);
    }

    private void centreOutsideTheSquare() {
        sentence("Their radical centre (which may lie outside the square).");
        // The centre is (10, -99 / 2), below the square; those with site 3 lie in it.
        PowerDiagram below = withSites(0, 0, 0, 10, 1, 0, 20, 0, 0, 10, 20, 0);
        dueTriangle(below, 0, 1, 2, 1);
        due("triangleCount()", below.triangleCount(), 3);
        below.move(3, 10, 0);
        dueTriangle(below, 0, 1, 2, 0);
        // The centre is (10, 301 / 2), above the square, where a site at (10, 0) needs a weight of 300 for the same.
        PowerDiagram above = withSites(0, 0, 400, 10, 1, 0, 20, 0, 400);
        dueTriangle(above, 0, 1, 2, 1);
        above.add(10, 0, 300);
        dueTriangle(above, 0, 1, 2, 1);
        above.setWeight(3, 301);
        dueTriangle(above, 0, 1, 2, 0);
        above.move(3, 10, 20);
        above.setWeight(3, 0);
        dueTriangle(above, 0, 1, 2, 0);
    }

    private void anyOrderOfSites() {
        sentence("The three sites, in any order.");
        int[][] orders = {{0, 1, 2}, {0, 2, 1}, {1, 0, 2}, {1, 2, 0}, {2, 0, 1}, {2, 1, 0}};
        PowerDiagram yes = withSites(3, 2, 17, 19, 5, 0, 8, 16, 44);
        PowerDiagram no = withSites(3, 2, 17, 19, 5, 0, 8, 16, 44, 10, 8, 60);
        for (int[] order : orders) {
            dueTriangle(yes, order[0], order[1], order[2], 1);
            dueTriangle(no, order[0], order[1], order[2], 0);
        }
    }

    private void siteDoesNotExist() {
        sentence("NO_SUCH_INDEX if one of the sites does not exist.");
        PowerDiagram d = withSites(0, 0, 0, 20, 0, 0, 0, 20, 0);
        int[] missing = {-1, 3, 9, 10, LOW, HIGH};
        for (int m : missing) {
            dueTriangle(d, m, 1, 2, NO_SUCH_INDEX);
            dueTriangle(d, 0, m, 2, NO_SUCH_INDEX);
            dueTriangle(d, 0, 1, m, NO_SUCH_INDEX);
            dueTriangle(d, 0, 0, m, NO_SUCH_INDEX);
            dueTriangle(d, m, m, m, NO_SUCH_INDEX);
        }
    }

    private void countsSets() {
        sentence("Returns the number of sets of three sites that form a triangle.");
        due("no sites", new PowerDiagram().triangleCount(), 0);
        due("one site", withSites(1, 2, 3).triangleCount(), 0);
        due("two sites", withSites(1, 2, 3, 7, 7, 7).triangleCount(), 0);
        due("three sites", withSites(1, 2, 3, 7, 7, 7, 1, 8, 0).triangleCount(), 1);
        // All on the circle around (10, 10) with the radius 10: 8 of them, so each three of them.
        PowerDiagram circle = withSites(10, 0, 9, 16, 2, 9, 18, 4, 9, 20, 10, 9, 16, 18, 9, 10, 20, 9, 2, 16, 9, 0, 10, 9);
        due("eight on a circle", circle.triangleCount(), 56);
        circle.add(4, 2, 9);
        circle.add(2, 4, 9);
        due("ten on a circle", circle.triangleCount(), 120);
        due("conflicts in its middle", circle.conflicts(10, 10, 0), 120);
        circle.setWeight(9, 10);
        due("the tenth heavier", circle.isTriangle(0, 1, 2), 0);
    }

    private void conflictsNeedLess() {
        sentence("Those to whose radical centre the new site would have a smaller power distance than the three sites have.");
        PowerDiagram four = fourCorners(5);
        due("the same power distance", four.conflicts(10, 20, 0), 4);
        due("the same power distance", four.conflicts(0, 0, 5), 0);
        due("less by 1", four.conflicts(0, 0, 6), 4);
        due("more by 1", four.conflicts(0, 0, 4), 0);
        // 200 - 5 is the power distance of the centre to the four.
        due("from far away", four.conflicts(20, 20, 400), 4);
        PowerDiagram far = withSites(0, 0, 400, 1, 0, 400, 0, 1, 400);
        // The centre is (1 / 2, 1 / 2) with -399.5, and (20, 20) has 760.5 - w.
        due("too far away", far.conflicts(20, 20, 400), 0);
        due("near enough", far.conflicts(1, 1, 400), 0);
        far.setWeight(0, 399);
        // Now the centre is (0, 0) with -399: the others stand 1 from it.
        due("at the same", far.conflicts(0, 0, 399), 0);
        due("above the same", far.conflicts(0, 0, 400), 1);
        due("present triangles only", four.conflicts(10, 10, 400), 4);
    }

    private void conflictsOutsideTheSquare() {
        sentence("The radical centre may lie outside the square. (conflicts)");
        // The centre is (10, -99 / 2), where the three have 100 + 49.5 * 49.5.
        PowerDiagram d = withSites(0, 0, 0, 10, 1, 0, 20, 0, 0);
        due("nearer", d.conflicts(10, 0, 0), 1);
        due("the same", d.conflicts(10, 1, 0), 0);
        due("a little heavier", d.conflicts(10, 1, 1), 1);
        due("too far above", d.conflicts(10, 20, 400), 0);
        due("one above, too light", d.conflicts(10, 2, 102), 0);
        due("one above, heavy enough", d.conflicts(10, 2, 103), 1);
    }

    private void conflictsChangeNothing() {
        sentence("Nothing changes.");
        PowerDiagram d = fourCorners(0);
        due("conflicts(10, 10, 400)", d.conflicts(10, 10, 400), 4);
        dueSites(d, 0, 0, 0, 20, 0, 0, 20, 20, 0, 0, 20, 0);
        due("triangleCount()", d.triangleCount(), 4);
        due("hiddenSites()", d.hiddenSites(), 0);
        due("undo()", d.undo(), 3);
    }

    private void conflictsOfTenSites() {
        sentence("Counts the triangles that a new site would destroy. (ten sites, so that none can be added)");
        PowerDiagram ten = fourCorners(0);
        for (int k = 4; k < 10; k++) {
            ten.add(10, 10, 0);
        }
        due("add(10, 10, 1)", ten.add(10, 10, 1), FULL);
        // Each two corners on one side form triangles with each of the six; the corner itself is nearer to none.
        due("triangleCount()", ten.triangleCount(), 24);
        due("conflicts of the middle", ten.conflicts(10, 10, 1), 24);
        due("conflicts of a twin", ten.conflicts(10, 10, 0), 0);
        due("conflicts on one side", ten.conflicts(10, 1, 0), 6);
    }

    private void dueSegment(PowerDiagram d, int x1, int y1, int x2, int y2, int want) {
        due("alongSegment(" + x1 + ", " + y1 + ", " + x2 + ", " + y2 + ")", d.alongSegment(x1, y1, x2, y2), want);
        due("alongSegment(" + x2 + ", " + y2 + ", " + x1 + ", " + y1 + ")", d.alongSegment(x2, y2, x1, y1), want);
    }

    private void segmentOfOnePoint() {
        sentence("Both ends may be the same point.");
        PowerDiagram four = fourCorners(0);
        dueSegment(four, 10, 10, 10, 10, 15);
        dueSegment(four, 10, 0, 10, 0, 3);
        dueSegment(four, 9, 10, 9, 10, 9);
        dueSegment(four, 0, 0, 0, 0, 1);
        dueSegment(four, 20, 20, 20, 20, 4);
        dueSegment(four, 11, 11, 11, 11, 4);
        dueSegment(new PowerDiagram(), 3, 3, 3, 3, 0);
    }

    private void segmentWithHiddenSites() {
        sentence("Finds all sites (hidden ones included) whose cells have a point in common with a segment.");
        PowerDiagram d = hiddenBetween();
        dueSegment(d, 10, 7, 10, 7, 7);
        dueSegment(d, 0, 0, 9, 20, 2);
        dueSegment(d, 0, 0, 10, 20, 7);
        dueSegment(d, 9, 3, 11, 4, 7);
        sentence("Finds all sites whose cells have a point in common with a segment. (empty cells)");
        PowerDiagram lighter = withSites(5, 5, 5, 5, 5, 6, 5, 5, 6);
        dueSegment(lighter, 0, 0, 20, 20, 6);
        dueSegment(lighter, 5, 5, 5, 5, 6);
        dueSegment(withSites(20, 10, 0, 10, 10, 300), 20, 0, 20, 20, 2);
    }

    private void segmentThatTouches() {
        sentence("Have a point in common with a segment. (one point alone)");
        PowerDiagram four = fourCorners(0);
        dueSegment(four, 0, 10, 10, 0, 1 + 2 + 8);
        dueSegment(four, 0, 20, 20, 0, 15);
        dueSegment(four, 1, 20, 20, 1, 2 + 4 + 8);
        dueSegment(four, 0, 19, 19, 0, 1 + 2 + 8);
        dueSegment(four, 0, 9, 9, 9, 1);
        dueSegment(four, 0, 9, 10, 9, 3);
        dueSegment(four, 0, 10, 10, 10, 15);
        dueSegment(four, 0, 10, 9, 10, 9);
        // The cell of the middle has the corners (10, 0), (20, 10), (10, 20) and (0, 10).
        PowerDiagram five = fourCorners(0);
        five.add(10, 10, 0);
        dueSegment(five, 0, 0, 20, 0, 1 + 2 + 16);
        dueSegment(five, 0, 9, 9, 0, 1);
        dueSegment(five, 0, 10, 10, 0, 1 + 2 + 8 + 16);
        dueSegment(five, 0, 0, 5, 5, 17);
        dueSegment(five, 0, 0, 4, 5, 1);
        dueSegment(five, 0, 0, 5, 6, 17);
        dueSegment(five, 20, 11, 20, 20, 4);
        dueSegment(five, 20, 10, 20, 20, 2 + 4 + 16);
        dueSegment(five, 20, 9, 20, 20, 2 + 4 + 16);
    }

    private void segmentDirections() {
        sentence("The segment from one end to the other, in every direction.");
        PowerDiagram row = tenSites();
        dueSegment(row, 3, 0, 7, 20, 2 + 4 + 8 + 16);
        dueSegment(row, 2, 0, 2, 20, 2);
        dueSegment(row, 0, 3, 20, 3, 1023);
        dueSegment(row, 1, 0, 17, 0, 1023);
        dueSegment(row, 2, 0, 16, 0, 510);
        dueSegment(row, 2, 20, 16, 0, 510);
        dueSegment(row, 20, 20, 18, 0, 512);
        dueSegment(row, 18, 0, 17, 20, 768);
    }

    private void segmentAfterRemoval() {
        sentence("Returns these sites as a bit set. (fewer sites than before)");
        PowerDiagram row = tenSites();
        dueSegment(row, 0, 3, 20, 3, 1023);
        row.remove(9);
        row.remove(8);
        dueSegment(row, 0, 3, 20, 3, 255);
        due("hiddenSites()", row.hiddenSites(), 0);
        dueSegment(row, 20, 0, 20, 20, 128);
        row.remove(0);
        dueSegment(row, 0, 0, 0, 20, 1);
        dueSegment(row, 0, 7, 20, 9, 127);
    }
}
