import java.util.List;
import java.util.function.ToIntFunction;

/** The boundary cases of 'ACTIONS AND UNDO' and of the save slots, sentence by sentence. */
public final class ActionsTests extends Section {
    private ActionsTests() {
    }

    public static void main(String[] args) {
        ActionsTests tests = new ActionsTests();
        tests.eachIsAnAction();
        tests.actionsThatChangeNothing();
        tests.allSitesAreRemembered();
        tests.lastFourteen();
        tests.manyTimesAround();
        tests.undoOfNothing();
        tests.undoTakesBackSitesAlone();
        tests.undoIsNoAction();
        tests.loadAndRestoreAreNoActions();
        tests.questionsAreNoActions();
        tests.errorsChangeNothing();
        tests.errorsWhenAllIsFull();
        tests.errorsOfANewObject();
        tests.questionsChangeNothing();
        tests.slotsThatDoNotExist();
        tests.emptySlots();
        tests.savedWithoutSites();
        tests.slotKeepsItsSites();
        tests.restoreForgets();
        tests.check.finish();
    }

    // ---- actions

    private void eachIsAnAction() {
        sentence("Each successful call of add, remove, move and setWeight is an action.");
        PowerDiagram d = new PowerDiagram();
        d.add(1, 2, 3);
        d.add(4, 5, 6);
        d.move(0, 7, 8);
        d.setWeight(1, 9);
        d.remove(0);
        dueSites(d, 4, 5, 9);
        due("undo() of remove", d.undo(), 4);
        dueSites(d, 7, 8, 3, 4, 5, 9);
        due("undo() of setWeight", d.undo(), 3);
        dueSites(d, 7, 8, 3, 4, 5, 6);
        due("undo() of move", d.undo(), 2);
        dueSites(d, 1, 2, 3, 4, 5, 6);
        due("undo() of add", d.undo(), 1);
        dueSites(d, 1, 2, 3);
        due("undo() of the first add", d.undo(), 0);
        dueSites(d);
        due("undo() of nothing", d.undo(), NOT_POSSIBLE);
    }

    private void actionsThatChangeNothing() {
        sentence("Even if nothing changes.");
        PowerDiagram d = withSites(1, 2, 3);
        due("move to the same place", d.move(0, 1, 2), 102);
        due("setWeight to the same weight", d.setWeight(0, 3), 3);
        due("move to the same place", d.move(0, 1, 2), 102);
        due("undo()", d.undo(), 3);
        due("undo()", d.undo(), 2);
        due("undo()", d.undo(), 1);
        dueSites(d, 1, 2, 3);
        for (int k = 0; k < 14; k++) {
            d.setWeight(0, 3);
        }
        due("undo() after 14 without a change", d.undo(), 13);
        for (int k = 0; k < 13; k++) {
            d.undo();
        }
        due("undo() of the add that they pushed out", d.undo(), NOT_POSSIBLE);
        dueSites(d, 1, 2, 3);
    }

    private void allSitesAreRemembered() {
        sentence("The object remembers all sites before each of the last 14 actions.");
        PowerDiagram d = tenSites();
        d.remove(9);
        d.remove(0);
        d.move(0, 20, 20);
        d.setWeight(7, 400);
        due("undo() of setWeight", d.undo(), 13);
        due("undo() of move", d.undo(), 12);
        due("undo() of remove(0)", d.undo(), 11);
        due("undo() of remove(9)", d.undo(), 10);
        due("siteCount()", d.siteCount(), 10);
        for (int i = 0; i < 10; i++) {
            due("site(" + i + ", 0)", d.site(i, 0), 2 * i);
            due("site(" + i + ", 1)", d.site(i, 1), 10);
            due("site(" + i + ", 2)", d.site(i, 2), 0);
        }
    }

    private void lastFourteen() {
        sentence("When a fifteenth action happens, the oldest remembered state is forgotten.");
        for (int actions = 12; actions <= 17; actions++) {
            PowerDiagram d = new PowerDiagram();
            d.add(0, 0, 0);
            for (int w = 2; w <= actions; w++) {
                d.setWeight(0, w);
            }
            int kept = Math.min(actions, 14);
            for (int left = kept - 1; left >= 0; left--) {
                due("undo() after " + actions + " actions", d.undo(), left);
            }
            due("one more undo() after " + actions + " actions", d.undo(), NOT_POSSIBLE);
            due("siteCount() after " + actions + " actions", d.siteCount(), actions <= 14 ? 0 : 1);
            due("site(0, 2) after " + actions + " actions", d.site(0, 2),
                actions <= 14 ? NO_SUCH_INDEX : actions == 15 ? 0 : actions - 14);
        }
    }

    private void manyTimesAround() {
        sentence("The last 14 actions. (many actions and undos in turn)");
        PowerDiagram d = withSites(0, 0, 0);
        int w = 0;
        int remembered = 1;
        for (int round = 0; round < 10; round++) {
            for (int k = 0; k < 2 + round; k++) {
                due("setWeight", d.setWeight(0, w + 1), w);
                w++;
                remembered = Math.min(14, remembered + 1);
            }
            for (int k = 0; k < 1 + round / 2; k++) {
                remembered--;
                due("undo()", d.undo(), remembered);
                w--;
                due("site(0, 2)", d.site(0, 2), w);
            }
        }
        while (remembered > 0) {
            remembered--;
            w--;
            due("undo() at the end", d.undo(), remembered);
            due("site(0, 2) at the end", d.site(0, 2), w);
        }
        due("one more undo()", d.undo(), NOT_POSSIBLE);
    }

    private void undoOfNothing() {
        sentence("NOT_POSSIBLE if none is remembered.");
        PowerDiagram d = new PowerDiagram();
        due("undo() of a new object", d.undo(), NOT_POSSIBLE);
        d.add(1, 2, 3);
        due("undo()", d.undo(), 0);
        due("undo() again", d.undo(), NOT_POSSIBLE);
        due("undo() again", d.undo(), NOT_POSSIBLE);
        due("siteCount()", d.siteCount(), 0);
        d.add(4, 5, 6);
        due("undo() of an action after that", d.undo(), 0);
    }

    private void undoTakesBackSitesAlone() {
        sentence("The object remembers all sites. (not the text, the observations or the slots)");
        PowerDiagram d = withSites(1, 2, 3);
        d.setWeight(0, 4);
        write(d, "P0");
        d.observe(1, 1, 5);
        d.save(1);
        due("undo()", d.undo(), 1);
        due("clearText()", d.clearText(), 2);
        due("clearObservations()", d.clearObservations(), 1);
        due("restore(1)", d.restore(1), 1);
        dueSites(d, 1, 2, 4);
    }

    private void undoIsNoAction() {
        sentence("undo, load and restore are not actions. (undo)");
        PowerDiagram d = withSites(1, 2, 3);
        d.setWeight(0, 4);
        due("undo()", d.undo(), 1);
        due("undo() does not take back an undo", d.undo(), 0);
        dueSites(d);
        due("undo()", d.undo(), NOT_POSSIBLE);
    }

    private void loadAndRestoreAreNoActions() {
        sentence("undo, load and restore are not actions. (load, restore)");
        PowerDiagram d = withSites(1, 2, 3);
        write(d, "P0000000");
        d.load();
        due("undo() after load", d.undo(), NOT_POSSIBLE);
        dueSites(d, 0, 0, 0);
        d.save(0);
        d.setWeight(0, 5);
        due("restore(0)", d.restore(0), 1);
        due("undo() after restore", d.undo(), NOT_POSSIBLE);
        dueSites(d, 0, 0, 0);
    }

    private void questionsAreNoActions() {
        sentence("Each successful call of add, remove, move and setWeight is an action. (and no other call)");
        PowerDiagram d = withSites(1, 2, 3);
        for (ToIntFunction<PowerDiagram> question : questions()) {
            question.applyAsInt(d);
        }
        d.append('P');
        d.clearText();
        d.observe(0, 0, 0);
        d.clearObservations();
        d.save(0);
        due("undo()", d.undo(), 0);
        due("undo()", d.undo(), NOT_POSSIBLE);
    }

    // ---- calls that change nothing

    /** A diagram of which everything that can be remembered is in use, but no space is full, except that of the actions. */
    private static PowerDiagram busy() {
        PowerDiagram d = withSites(1, 1, 0, 5, 6, 70);
        d.save(0);
        d.add(18, 9, 8);
        for (int w = 0; w < 14; w++) {
            d.setWeight(w % 3, 10 * w);
        }
        d.observe(1, 1, 0);
        d.observe(18, 9, 2);
        write(d, "P0203004");
        return d;
    }

    /** Ten sites, six observations, eighty characters. */
    private static PowerDiagram full() {
        PowerDiagram d = tenSites();
        for (int k = 0; k < 6; k++) {
            d.observe(2 * k, 10, k);
        }
        write(d, "P".repeat(80));
        return d;
    }

    /** Everything that can be found out, which uses the object up. The rows of undo are left out for many sites. */
    private static String stateOf(PowerDiagram d) {
        StringBuilder state = new StringBuilder(sitesOf(d));
        for (int i = 0; i < d.siteCount(); i++) {
            state.append(" weights ").append(d.possibleWeights(i, 0)).append(' ').append(d.possibleWeights(i, 1));
        }
        state.append(" observed ").append(d.clearObservations()).append(" error ").append(d.errorPosition());
        int left = 0;
        while (left >= 0) {
            left = d.undo();
            state.append(" undo ").append(left).append(d.siteCount() > 5 ? "" : sitesOf(d));
        }
        state.append(" slot ").append(d.restore(0)).append(sitesOf(d));
        state.append(" slot ").append(d.restore(1)).append(sitesOf(d));
        state.append(" load ").append(d.load()).append(sitesOf(d));
        return state.append(" text ").append(d.clearText()).toString();
    }

    private static String sitesOf(PowerDiagram d) {
        StringBuilder sites = new StringBuilder(" sites");
        for (int i = 0; i < d.siteCount(); i++) {
            sites.append(' ').append(d.site(i, 0)).append(',').append(d.site(i, 1)).append(',').append(d.site(i, 2));
        }
        return sites.toString();
    }

    private void dueRefused(String call, PowerDiagram d, PowerDiagram same, ToIntFunction<PowerDiagram> refused, int want) {
        due(call, refused.applyAsInt(d), want);
        check.dueTrue(call + " leaves all as it was", stateOf(d).equals(stateOf(same)));
    }

    private void busyRefuses(String call, ToIntFunction<PowerDiagram> refused, int want) {
        dueRefused(call, busy(), busy(), refused, want);
    }

    private void errorsChangeNothing() {
        sentence("A call that returns an error changes nothing and is not an action.");
        busyRefuses("append(256)", d -> d.append(256), BAD_VALUE);
        busyRefuses("add(21, 0, 0)", d -> d.add(21, 0, 0), BAD_VALUE);
        busyRefuses("add(0, 21, 0)", d -> d.add(0, 21, 0), BAD_VALUE);
        busyRefuses("add(0, 0, 401)", d -> d.add(0, 0, 401), BAD_VALUE);
        busyRefuses("remove(3)", d -> d.remove(3), NO_SUCH_INDEX);
        busyRefuses("remove(-1)", d -> d.remove(-1), NO_SUCH_INDEX);
        busyRefuses("move(3, 0, 0)", d -> d.move(3, 0, 0), NO_SUCH_INDEX);
        busyRefuses("move(0, 21, 0)", d -> d.move(0, 21, 0), BAD_VALUE);
        busyRefuses("move(0, 0, 21)", d -> d.move(0, 0, 21), BAD_VALUE);
        busyRefuses("setWeight(3, 0)", d -> d.setWeight(3, 0), NO_SUCH_INDEX);
        busyRefuses("setWeight(0, 401)", d -> d.setWeight(0, 401), BAD_VALUE);
        busyRefuses("observe(21, 0, 0)", d -> d.observe(21, 0, 0), BAD_VALUE);
        busyRefuses("observe(0, 21, 0)", d -> d.observe(0, 21, 0), BAD_VALUE);
        busyRefuses("observe(0, 0, 10)", d -> d.observe(0, 0, 10), BAD_VALUE);
        busyRefuses("conflicts(0, 0, 401)", d -> d.conflicts(0, 0, 401), BAD_VALUE);
        busyRefuses("weightForSize(0, 442)", d -> d.weightForSize(0, 442), BAD_VALUE);
        busyRefuses("runScript(4, 0)", d -> d.runScript(4, 0), BAD_VALUE);
        busyRefuses("runScript(1, 100000)", d -> d.runScript(1, 100000), BAD_VALUE);
        busyRefuses("save(2)", d -> d.save(2), NO_SUCH_INDEX);
        busyRefuses("save(-1)", d -> d.save(-1), NO_SUCH_INDEX);
        busyRefuses("restore(2)", d -> d.restore(2), NO_SUCH_INDEX);
        busyRefuses("restore(-1)", d -> d.restore(-1), NO_SUCH_INDEX);
        busyRefuses("restore(1)", d -> d.restore(1), NOT_POSSIBLE);
        sentence("A call that returns an error changes nothing. (load)");
        PowerDiagram d = busy();
        PowerDiagram same = busy();
        d.append('0');
        same.append('0');
        dueRefused("load()", d, same, PowerDiagram::load, NOT_POSSIBLE);
    }

    private void errorsWhenAllIsFull() {
        sentence("A call that returns an error changes nothing and is not an action. (FULL)");
        dueRefused("add(0, 0, 0)", full(), full(), d -> d.add(0, 0, 0), FULL);
        dueRefused("observe(20, 20, 9)", full(), full(), d -> d.observe(20, 20, 9), FULL);
        dueRefused("append('0')", full(), full(), d -> d.append('0'), FULL);
        dueRefused("add(0, 0, 401)", full(), full(), d -> d.add(0, 0, 401), BAD_VALUE);
    }

    private void errorsOfANewObject() {
        sentence("A call that returns an error changes nothing and is not an action. (a new object)");
        newObjectRefuses("undo()", PowerDiagram::undo, NOT_POSSIBLE);
        newObjectRefuses("load()", PowerDiagram::load, NOT_POSSIBLE);
        newObjectRefuses("restore(0)", d -> d.restore(0), NOT_POSSIBLE);
        newObjectRefuses("remove(0)", d -> d.remove(0), NO_SUCH_INDEX);
        newObjectRefuses("move(0, 0, 0)", d -> d.move(0, 0, 0), NO_SUCH_INDEX);
        newObjectRefuses("setWeight(0, 0)", d -> d.setWeight(0, 0), NO_SUCH_INDEX);
    }

    private void newObjectRefuses(String call, ToIntFunction<PowerDiagram> refused, int want) {
        dueRefused(call, new PowerDiagram(), new PowerDiagram(), refused, want);
    }

    private static List<ToIntFunction<PowerDiagram>> questions() {
        return List.of(
            PowerDiagram::errorPosition, PowerDiagram::siteCount, d -> d.site(0, 0), d -> d.powerDistance(0, 3, 3),
            d -> d.owner(3, 3), d -> d.size(0), d -> d.cornerCount(0), d -> d.cornerNumerator(0, 1, 0),
            d -> d.cornerDenominator(0, 1, 0), PowerDiagram::hiddenSites, d -> d.neighbours(0),
            d -> d.isTriangle(0, 1, 2), PowerDiagram::triangleCount, d -> d.conflicts(3, 3, 400),
            d -> d.alongSegment(0, 0, 20, 20), d -> d.weightForSize(0, 300), d -> d.weightForSize(0, 441),
            d -> d.possibleWeights(0, 0), d -> d.possibleWeights(0, 1), d -> d.possibleWeights(0, 2),
            d -> d.runScript(3, 203991000010000L), d -> d.runScript(1, 20399), d -> d.sample(1, 0, 200));
    }

    private void questionsChangeNothing() {
        sentence("Nothing is promised beyond the answers and state changes described above.");
        int number = 0;
        for (ToIntFunction<PowerDiagram> question : questions()) {
            PowerDiagram d = busy();
            question.applyAsInt(d);
            check.dueTrue("question " + number + " leaves all as it was", stateOf(d).equals(stateOf(busy())));
            number++;
        }
    }

    // ---- save slots

    private void slotsThatDoNotExist() {
        sentence("NO_SUCH_INDEX if slot is not 0 or 1.");
        PowerDiagram d = withSites(1, 2, 3);
        int[] missing = {-1, 2, LOW, HIGH};
        for (int slot : missing) {
            due("save(" + slot + ")", d.save(slot), NO_SUCH_INDEX);
            due("restore(" + slot + ")", d.restore(slot), NO_SUCH_INDEX);
        }
        due("save(0)", d.save(0), 1);
        due("save(1)", d.save(1), 1);
        for (int slot : missing) {
            due("restore(" + slot + ")", d.restore(slot), NO_SUCH_INDEX);
        }
    }

    private void emptySlots() {
        sentence("NOT_POSSIBLE if the slot is empty.");
        PowerDiagram d = withSites(1, 2, 3);
        due("restore(0) at first", d.restore(0), NOT_POSSIBLE);
        due("restore(1) at first", d.restore(1), NOT_POSSIBLE);
        d.save(0);
        due("restore(1) after save(0)", d.restore(1), NOT_POSSIBLE);
        due("restore(0) after save(0)", d.restore(0), 1);
        due("restore(1) after restore(0)", d.restore(1), NOT_POSSIBLE);
        PowerDiagram other = withSites(1, 2, 3);
        other.save(1);
        due("restore(0) after save(1)", other.restore(0), NOT_POSSIBLE);
    }

    private void savedWithoutSites() {
        sentence("Stores all sites in a slot. (no sites, ten sites)");
        PowerDiagram d = new PowerDiagram();
        due("save(0) of no sites", d.save(0), 0);
        for (int k = 0; k < 10; k++) {
            d.add(k, 20 - k, 40 * k);
        }
        due("save(1) of ten sites", d.save(1), 10);
        due("restore(0)", d.restore(0), 0);
        dueSites(d);
        due("restore(1)", d.restore(1), 10);
        dueSites(d, 0, 20, 0, 1, 19, 40, 2, 18, 80, 3, 17, 120, 4, 16, 160, 5, 15, 200, 6, 14, 240, 7, 13, 280, 8, 12, 320,
            9, 11, 360);
        due("add to ten sites", d.add(0, 0, 0), FULL);
    }

    private void slotKeepsItsSites() {
        sentence("The slot keeps its sites.");
        PowerDiagram d = withSites(1, 2, 3, 4, 5, 6);
        d.save(0);
        d.save(1);
        d.move(0, 20, 20);
        d.setWeight(0, 400);
        due("restore(0)", d.restore(0), 2);
        dueSites(d, 1, 2, 3, 4, 5, 6);
        d.remove(0);
        d.setWeight(0, 77);
        d.undo();
        d.move(0, 9, 9);
        due("restore(0) again", d.restore(0), 2);
        dueSites(d, 1, 2, 3, 4, 5, 6);
        d.remove(1);
        due("save(0) over it", d.save(0), 1);
        due("restore(1), the other slot", d.restore(1), 2);
        due("restore(0), the new sites", d.restore(0), 1);
        dueSites(d, 1, 2, 3);
    }

    private void restoreForgets() {
        sentence("Replaces all sites by those in a slot, and forgets all remembered states.");
        PowerDiagram d = withSites(1, 2, 3, 4, 5, 6);
        d.save(0);
        for (int w = 0; w < 20; w++) {
            d.setWeight(0, w);
        }
        due("restore(0)", d.restore(0), 2);
        due("undo()", d.undo(), NOT_POSSIBLE);
        dueSites(d, 1, 2, 3, 4, 5, 6);
        for (int left = 0; left < 15; left++) {
            d.setWeight(0, 100 + left);
        }
        for (int left = 13; left >= 0; left--) {
            due("undo()", d.undo(), left);
        }
        dueSites(d, 1, 2, 100, 4, 5, 6);
        due("undo()", d.undo(), NOT_POSSIBLE);
    }
}
