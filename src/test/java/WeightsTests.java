/** The boundary cases of 'OBSERVATIONS' and of the weights for a wanted size, sentence by sentence. */
public final class WeightsTests extends Section {
    private WeightsTests() {
    }

    public static void main(String[] args) {
        WeightsTests tests = new WeightsTests();
        tests.wantedSizes();
        tests.observations();
        tests.check.finish();
    }

    // ---- weights for a wanted size

    private void wantedSizes() {
        numberOfPoints();
        smallestAndGreatestWeight();
        noSuchWeight();
        everySize();
        everythingElseAsItIs();
    }

    private void numberOfPoints() {
        sentence("n: number of lattice points, 0 to 441");
        PowerDiagram d = withSites(3, 3, 3);
        int[] wrong = {-1, 442, LOW, HIGH};
        for (int n : wrong) {
            due("weightForSize(0, " + n + ")", d.weightForSize(0, n), BAD_VALUE);
            due("weightForSize(1, " + n + ")", d.weightForSize(1, n), NO_SUCH_INDEX);
        }
        due("weightForSize(0, 0)", d.weightForSize(0, 0), 0);
        due("weightForSize(0, 441)", d.weightForSize(0, 441), 0);
        due("weightForSize(1, 0)", d.weightForSize(1, 0), NO_SUCH_INDEX);
        due("weightForSize(-1, 0)", d.weightForSize(-1, 0), NO_SUCH_INDEX);
    }

    private void smallestAndGreatestWeight() {
        sentence("Returns the smallest weight from 0 to 400.");
        PowerDiagram first = withSites(0, 10, 0, 20, 10, 0);
        due("0 is enough for all that it has", first.weightForSize(0, 231), 0);
        due("one more point needs a column", first.weightForSize(0, 232), 40);
        due("the whole column", first.weightForSize(0, 252), 40);
        due("all but a column", first.weightForSize(0, 420), 360);
        due("all", first.weightForSize(0, 421), 400);
        due("all", first.weightForSize(0, 441), 400);
        PowerDiagram second = withSites(20, 10, 0, 0, 10, 0);
        due("a tie is not enough behind", second.weightForSize(1, 211), 1);
        due("all but a column behind", second.weightForSize(1, 420), 361);
        PowerDiagram heavy = withSites(0, 10, 0, 0, 10, 400);
        due("before a heavy twin", heavy.weightForSize(0, 1), 400);
        due("behind a light twin", heavy.weightForSize(1, 1), 1);
        due("behind a light twin, all", heavy.weightForSize(1, 441), 1);
    }

    private void noSuchWeight() {
        sentence("NONE if there is no such weight.");
        PowerDiagram second = withSites(20, 10, 0, 0, 10, 0);
        due("401 would be needed", second.weightForSize(1, 421), NONE);
        due("401 would be needed", second.weightForSize(1, 441), NONE);
        PowerDiagram twins = withSites(5, 5, 400, 5, 5, 0);
        due("behind a twin of 400", twins.weightForSize(1, 1), NONE);
        due("no point behind a twin of 400", twins.weightForSize(1, 0), 0);
        due("before it", twins.weightForSize(0, 441), 0);
        PowerDiagram far = withSites(0, 0, 0, 20, 20, 0);
        due("800 would be needed", far.weightForSize(0, 441), NONE);
        due("800 would be needed", far.weightForSize(1, 441), NONE);
    }

    private void everySize() {
        sentence("With which the size of the site would be at least n.");
        PowerDiagram d = withSites(4, 3, 11, 15, 6, 40, 9, 17, 0);
        int[] sizes = new int[401];
        for (int w = 0; w <= 400; w++) {
            sizes[w] = withSites(4, 3, 11, 15, 6, w, 9, 17, 0).size(1);
        }
        for (int n = 0; n <= 441; n++) {
            int want = 0;
            while (want <= 400 && sizes[want] < n) {
                want++;
            }
            due("weightForSize(1, " + n + ")", d.weightForSize(1, n), want > 400 ? NONE : want);
        }
    }

    private void everythingElseAsItIs() {
        sentence("Everything else being as it is.");
        PowerDiagram d = withSites(0, 10, 350, 20, 10, 30);
        due("less than the present weight", d.weightForSize(0, 1), 0);
        due("over the weight of the other", d.weightForSize(0, 232), 70);
        due("the present weight counts for nothing", d.weightForSize(1, 441), NONE);
        dueSites(d, 0, 10, 350, 20, 10, 30);
        due("undo()", d.undo(), 1);
    }

    // ---- observations

    private void observations() {
        atMostSix();
        limitsOfAnObservation();
        noObservations();
        fromNoughtToFourHundred();
        noPossibleWeight();
        siteThatDoesNotExist();
        atTheTimeOfTheQuestion();
        loadingKeepsThem();
        allMustBeTrue();
        whatMayBeAsked();
        clearing();
    }

    private void atMostSix() {
        sentence("At most 6 observations are stored.");
        PowerDiagram d = withSites(0, 10, 0, 20, 10, 0);
        for (int k = 1; k <= 6; k++) {
            due("observation " + k, d.observe(k, 10, 0), k);
        }
        due("a seventh", d.observe(20, 10, 0), FULL);
        due("a seventh again", d.observe(20, 10, 1), FULL);
        due("possibleWeights(0, 0)", d.possibleWeights(0, 0), 401);
        due("clearObservations()", d.clearObservations(), 6);
        due("the first again", d.observe(20, 10, 0), 1);
        due("possibleWeights(0, 1)", d.possibleWeights(0, 1), 400);
        for (int k = 2; k <= 6; k++) {
            due("the same observation", d.observe(20, 10, 0), k);
        }
        due("a seventh of the same", d.observe(20, 10, 0), FULL);
    }

    private void limitsOfAnObservation() {
        sentence("x: 0 to 20, y: 0 to 20, i: site, 0 to 9");
        PowerDiagram d = new PowerDiagram();
        int[] outside = {-1, 21, LOW, HIGH};
        for (int out : outside) {
            due("observe(" + out + ", 0, 0)", d.observe(out, 0, 0), BAD_VALUE);
            due("observe(0, " + out + ", 0)", d.observe(0, out, 0), BAD_VALUE);
        }
        int[] noNumber = {-1, 10, LOW, HIGH};
        for (int i : noNumber) {
            due("observe(0, 0, " + i + ")", d.observe(0, 0, i), BAD_VALUE);
        }
        due("observe(0, 0, 0)", d.observe(0, 0, 0), 1);
        due("observe(20, 20, 9)", d.observe(20, 20, 9), 2);
        due("observe(0, 20, 9)", d.observe(0, 20, 9), 3);
        due("clearObservations()", d.clearObservations(), 3);
    }

    private void duePossible(PowerDiagram d, int i, int smallest, int greatest) {
        due("possibleWeights(" + i + ", 0)", d.possibleWeights(i, 0), greatest - smallest + 1);
        due("possibleWeights(" + i + ", 1)", d.possibleWeights(i, 1), smallest);
        due("possibleWeights(" + i + ", 2)", d.possibleWeights(i, 2), greatest);
    }

    private void dueImpossible(PowerDiagram d, int i) {
        due("possibleWeights(" + i + ", 0)", d.possibleWeights(i, 0), 0);
        due("possibleWeights(" + i + ", 1)", d.possibleWeights(i, 1), NONE);
        due("possibleWeights(" + i + ", 2)", d.possibleWeights(i, 2), NONE);
    }

    private void noObservations() {
        sentence("A weight is possible if all stored observations are true. (none is stored)");
        PowerDiagram d = withSites(3, 3, 0, 3, 3, 400);
        duePossible(d, 0, 0, 400);
        duePossible(d, 1, 0, 400);
        d.observe(3, 3, 5);
        d.clearObservations();
        duePossible(d, 0, 0, 400);
    }

    private void fromNoughtToFourHundred() {
        sentence("A weight from 0 to 400 is possible.");
        PowerDiagram all = withSites(0, 10, 200);
        all.observe(20, 20, 0);
        duePossible(all, 0, 0, 400);
        PowerDiagram only400 = withSites(0, 10, 0, 20, 10, 0);
        only400.observe(20, 0, 0);
        duePossible(only400, 0, 400, 400);
        PowerDiagram only0 = withSites(20, 10, 0, 0, 10, 0);
        only0.observe(10, 5, 0);
        duePossible(only0, 1, 0, 0);
        PowerDiagram below400 = withSites(0, 10, 0, 20, 10, 0);
        below400.observe(20, 0, 1);
        duePossible(below400, 0, 0, 399);
        PowerDiagram upTo400 = withSites(20, 10, 0, 0, 10, 0);
        upTo400.observe(20, 0, 0);
        duePossible(upTo400, 1, 0, 400);
        PowerDiagram from1 = withSites(20, 10, 0, 0, 10, 0);
        from1.observe(10, 5, 1);
        duePossible(from1, 1, 1, 400);
    }

    private void noPossibleWeight() {
        sentence("NONE if what is 1 or 2 and no weight is possible.");
        PowerDiagram needs401 = withSites(20, 10, 0, 0, 10, 0);
        needs401.observe(20, 0, 1);
        dueImpossible(needs401, 1);
        PowerDiagram needsLessThan0 = withSites(0, 10, 0, 20, 10, 0);
        needsLessThan0.observe(10, 5, 1);
        dueImpossible(needsLessThan0, 0);
        duePossible(needsLessThan0, 1, 1, 400);
        PowerDiagram against = withSites(0, 10, 0, 20, 10, 0);
        against.observe(12, 5, 0);
        against.observe(12, 6, 1);
        dueImpossible(against, 0);
        dueImpossible(against, 1);
        PowerDiagram farApart = withSites(0, 10, 0, 20, 10, 0);
        farApart.observe(13, 5, 0);
        farApart.observe(11, 5, 1);
        dueImpossible(farApart, 0);
        dueImpossible(farApart, 1);
        PowerDiagram ofOthers = withSites(0, 10, 0, 20, 10, 0, 10, 10, 0);
        ofOthers.observe(20, 10, 0);
        dueImpossible(ofOthers, 2);
        dueImpossible(ofOthers, 1);
        duePossible(ofOthers, 0, 400, 400);
        ofOthers.clearObservations();
        ofOthers.observe(20, 10, 1);
        duePossible(ofOthers, 2, 0, 100);
        duePossible(ofOthers, 1, 0, 400);
        duePossible(ofOthers, 0, 0, 399);
    }

    private void siteThatDoesNotExist() {
        sentence("An observation about a site that does not exist at that time is never true.");
        PowerDiagram d = withSites(0, 10, 0);
        d.observe(20, 10, 1);
        dueImpossible(d, 0);
        d.add(20, 10, 0);
        duePossible(d, 0, 0, 399);
        duePossible(d, 1, 0, 400);
        d.remove(1);
        dueImpossible(d, 0);
        d.undo();
        duePossible(d, 0, 0, 399);
        d.observe(5, 5, 9);
        dueImpossible(d, 0);
        dueImpossible(d, 1);
        due("possibleWeights(9, 0)", d.possibleWeights(9, 0), NO_SUCH_INDEX);
        PowerDiagram ten = tenSites();
        ten.observe(18, 10, 9);
        duePossible(ten, 9, 0, 400);
        ten.remove(0);
        dueImpossible(ten, 8);
        PowerDiagram removed = withSites(0, 10, 0, 20, 10, 0);
        removed.observe(0, 10, 0);
        duePossible(removed, 1, 0, 400);
        removed.remove(0);
        duePossible(removed, 0, 0, 400);
    }

    private void atTheTimeOfTheQuestion() {
        sentence("Everything else is as it is at the time of the question.");
        PowerDiagram d = withSites(0, 10, 0, 20, 10, 0);
        d.observe(12, 5, 0);
        duePossible(d, 0, 80, 400);
        d.setWeight(1, 20);
        duePossible(d, 0, 100, 400);
        d.setWeight(0, 77);
        duePossible(d, 0, 100, 400);
        d.move(1, 12, 5);
        duePossible(d, 0, 189, 400);
        d.move(0, 12, 5);
        duePossible(d, 0, 20, 400);
        d.remove(1);
        duePossible(d, 0, 0, 400);
        d.add(12, 5, 400);
        duePossible(d, 0, 400, 400);
        sentence("When this site has this weight. (not its present one)");
        PowerDiagram heavy = withSites(0, 10, 400, 20, 10, 0);
        heavy.observe(20, 10, 1);
        duePossible(heavy, 0, 0, 399);
        duePossible(heavy, 1, 1, 400);
        heavy.clearObservations();
        heavy.observe(12, 10, 0);
        duePossible(heavy, 0, 80, 400);
        duePossible(heavy, 1, 0, 320);
    }

    private void loadingKeepsThem() {
        sentence("Loading a setup keeps the observations.");
        PowerDiagram d = new PowerDiagram();
        d.observe(20, 0, 0);
        write(d, "P00100002010000");
        due("load()", d.load(), 2);
        duePossible(d, 0, 400, 400);
        d.save(1);
        d.observe(20, 0, 1);
        due("restore(1)", d.restore(1), 2);
        dueImpossible(d, 0);
        due("clearObservations()", d.clearObservations(), 2);
    }

    private void allMustBeTrue() {
        sentence("All stored observations are true.");
        PowerDiagram d = withSites(0, 10, 0, 20, 10, 0);
        d.observe(11, 0, 0);
        duePossible(d, 0, 40, 400);
        d.observe(15, 0, 1);
        duePossible(d, 0, 40, 199);
        d.observe(12, 0, 0);
        duePossible(d, 0, 80, 199);
        d.observe(14, 0, 1);
        duePossible(d, 0, 80, 159);
        d.observe(13, 0, 0);
        duePossible(d, 0, 120, 159);
        d.observe(13, 0, 1);
        dueImpossible(d, 0);
    }

    private void whatMayBeAsked() {
        sentence("what: 0 for the number of possible weights, 1 for the smallest one, 2 for the greatest one");
        PowerDiagram d = withSites(0, 10, 0);
        int[] wrong = {-1, 3, LOW, HIGH};
        for (int what : wrong) {
            due("possibleWeights(0, " + what + ")", d.possibleWeights(0, what), BAD_VALUE);
            due("possibleWeights(1, " + what + ")", d.possibleWeights(1, what), NO_SUCH_INDEX);
        }
        int[] missing = {-1, 1, 10, LOW, HIGH};
        for (int i : missing) {
            due("possibleWeights(" + i + ", 0)", d.possibleWeights(i, 0), NO_SUCH_INDEX);
        }
        d.observe(0, 0, 3);
        due("possibleWeights(0, 3) when none is possible", d.possibleWeights(0, 3), BAD_VALUE);
    }

    private void clearing() {
        sentence("Removes all observations. Returns how many were stored.");
        PowerDiagram d = withSites(0, 10, 0);
        due("clearObservations() of none", d.clearObservations(), 0);
        for (int stored = 1; stored <= 6; stored++) {
            for (int k = 0; k < stored; k++) {
                d.observe(k, k, 1);
            }
            due("possibleWeights(0, 0)", d.possibleWeights(0, 0), 0);
            due("clearObservations() of " + stored, d.clearObservations(), stored);
            due("possibleWeights(0, 0) after that", d.possibleWeights(0, 0), 401);
            due("clearObservations() again", d.clearObservations(), 0);
        }
    }
}
