/** The boundary cases of 'SCRIPTS' and of the random samples, sentence by sentence. */
public final class ScriptsTests extends Section {
    private ScriptsTests() {
    }

    public static void main(String[] args) {
        ScriptsTests tests = new ScriptsTests();
        tests.numberOfCommands();
        tests.numberOfDigits();
        tests.firstCommandIsTheHighestGroup();
        tests.onACopy();
        tests.commands();
        tests.otherGroups();
        tests.results();
        tests.samples();
        tests.check.finish();
    }

    private static long script(int... groups) {
        long script = 0;
        for (int group : groups) {
            script = 100000 * script + group;
        }
        return script;
    }

    private void dueScript(PowerDiagram d, int want, int... groups) {
        long script = script(groups);
        due("runScript(" + groups.length + ", " + script + ")", d.runScript(groups.length, script), want);
    }

    private static PowerDiagram halves() {
        return withSites(0, 10, 0, 20, 10, 0);
    }

    // ---- the number

    private void numberOfCommands() {
        sentence("A script has 1 to 3 commands. n: number of commands, 1 to 3");
        PowerDiagram d = halves();
        int[] wrong = {0, -1, 4, LOW, HIGH};
        for (int n : wrong) {
            due("runScript(" + n + ", 0)", d.runScript(n, 0), BAD_VALUE);
            due("runScript(" + n + ", 40000)", d.runScript(n, 40000), BAD_VALUE);
            due("runScript(" + n + ", -1)", d.runScript(n, -1), BAD_VALUE);
        }
        due("one command", d.runScript(1, 40000), NONE);
        due("two commands", d.runScript(2, script(40000, 40000)), NONE);
        due("three commands", d.runScript(3, script(40000, 40000, 40000)), NONE);
        due("four commands", d.runScript(4, script(40000, 40000, 40000)), BAD_VALUE);
    }

    private void numberOfDigits() {
        sentence("BAD_VALUE if script is negative or has more than 5 * n digits.");
        PowerDiagram d = halves();
        long[] greatest = {99999L, 9999999999L, 999999999999999L};
        for (int n = 1; n <= 3; n++) {
            due("the greatest of " + n, d.runScript(n, greatest[n - 1]), 0);
            due("one more than the greatest of " + n, d.runScript(n, greatest[n - 1] + 1), BAD_VALUE);
            due("a good last group of " + n, d.runScript(n, greatest[n - 1] + 1 + 40000), BAD_VALUE);
            due("the greatest long for " + n, d.runScript(n, Long.MAX_VALUE), BAD_VALUE);
            due("the least long for " + n, d.runScript(n, Long.MIN_VALUE), BAD_VALUE);
            due("-1 for " + n, d.runScript(n, -1), BAD_VALUE);
            due("a negative script for " + n, d.runScript(n, -40000), BAD_VALUE);
            due("a great long for " + n, d.runScript(n, (1L << 62) + 40000), BAD_VALUE);
        }
        sentence("A number of at most 5 * n digits (0 or more).");
        for (int n = 1; n <= 3; n++) {
            due("0 for " + n, d.runScript(n, 0), 0);
            due("1 for " + n, d.runScript(n, 1), 0);
        }
        due("fewer digits than 15", d.runScript(3, script(40000, 40000)), 0);
        due("fewer digits than 10", d.runScript(2, 40000), 0);
    }

    private void firstCommandIsTheHighestGroup() {
        sentence("The first command is the highest group of the number.");
        PowerDiagram d = halves();
        dueScript(d, NONE, 42010, 51000);
        dueScript(d, 0, 51000, 42010);
        dueScript(d, NONE, 20040, 41100, 50000);
        dueScript(d, 2, 41100, 20040, 50000);
        dueScript(d, 1, 20040, 50000, 41100);
    }

    private void onACopy() {
        sentence("The commands run on a copy of the sites, one after another.");
        PowerDiagram d = halves();
        dueScript(d, NONE, 10000, 10000);
        dueSites(d, 0, 10, 0, 20, 10, 0);
        dueScript(d, NONE, 20400, 21007);
        dueSites(d, 0, 10, 0, 20, 10, 0);
        dueScript(d, 2, 10000, 10000, 10000);
        dueScript(d, NONE, 10000, 20300, 60441);
        dueScript(d, 0, 60441);
        dueScript(d, 1, 20399, 60441);
        dueScript(d, NONE, 20400, 60441);
        dueScript(d, 0, 60441);
        d.setWeight(0, 400);
        dueScript(d, NONE, 60441);
        due("undo()", d.undo(), 2);
    }

    // ---- the commands

    private void commands() {
        removes();
        setsWeights();
        isHidden();
        finds();
        foundIs();
        sizeIsAtLeast();
    }

    private void removes() {
        sentence("1 i 0 0 0: removes site i; fails if it does not exist.");
        PowerDiagram d = halves();
        dueScript(d, NONE, 10000);
        dueScript(d, NONE, 11000);
        dueScript(d, 0, 12000);
        dueScript(d, 0, 19000);
        dueScript(d, NONE, 11000, 10000);
        dueScript(d, 1, 10000, 11000);
        dueScript(new PowerDiagram(), 0, 10000);
        dueScript(tenSites(), NONE, 19000);
        dueScript(tenSites(), 1, 19000, 19000);
        dueScript(tenSites(), 1, 10000, 19000);
        // The site behind the removed one becomes smaller by 1.
        dueScript(withSites(0, 10, 0, 10, 10, 0, 20, 10, 0), NONE, 10000, 41310, 50000);
        sentence("Any other group fails. (command 1 with other digits)");
        dueScript(d, 0, 10001);
        dueScript(d, 0, 10010);
        dueScript(d, 0, 10100);
    }

    private void setsWeights() {
        sentence("2 i w w w: sets the weight of site i to www (000 to 400); fails if the site does not exist or www is too much.");
        PowerDiagram d = halves();
        dueScript(d, NONE, 20000);
        dueScript(d, NONE, 21400);
        dueScript(d, 0, 21401);
        dueScript(d, 0, 20999);
        dueScript(d, 0, 20410);
        dueScript(d, 0, 20500);
        dueScript(d, 0, 22000);
        dueScript(d, 0, 29400);
        dueScript(d, 1, 10000, 21000);
        dueScript(new PowerDiagram(), 0, 20000);
        dueScript(tenSites(), NONE, 29400, 69441);
        sentence("(The found site stays.)");
        dueScript(d, NONE, 42010, 20400, 51000);
        dueScript(d, NONE, 42010, 21000, 51000);
        dueScript(d, 2, 42010, 20400, 50000);
    }

    private void isHidden() {
        sentence("3 i 0 0 0: succeeds if site i exists and is hidden.");
        PowerDiagram d = hiddenBetween();
        dueScript(d, NONE, 30000);
        dueScript(d, 0, 31000);
        dueScript(d, 0, 33000);
        dueScript(d, 0, 39000);
        dueScript(new PowerDiagram(), 0, 30000);
        dueScript(d, 1, 20001, 30000);
        dueScript(d, NONE, 21099, 20000, 22101);
        dueScript(d, 1, 10000, 30000);
        dueScript(d, 1, 11000, 30000);
        dueScript(d, NONE, 21400, 30000);
        PowerDiagram ten = tenSites();
        dueScript(ten, NONE, 20400, 39000);
        dueScript(ten, NONE, 20400, 19000, 38000);
        dueScript(ten, 2, 20400, 19000, 39000);
        sentence("Any other group fails. (command 3 with other digits)");
        dueScript(d, 0, 30001);
        dueScript(d, 0, 30010);
        dueScript(d, 0, 30100);
    }

    private void finds() {
        sentence("4 x x y y: succeeds if the point (xx, yy) is in the square and there are sites.");
        PowerDiagram d = halves();
        dueScript(d, NONE, 40000);
        dueScript(d, NONE, 42020);
        dueScript(d, 0, 42120);
        dueScript(d, 0, 42021);
        dueScript(d, 0, 49900);
        dueScript(d, 0, 40099);
        dueScript(d, 0, 43000);
        dueScript(d, 0, 40030);
        dueScript(new PowerDiagram(), 0, 42020);
        dueScript(new PowerDiagram(), 0, 42121);
        dueScript(d, 2, 10000, 10000, 40000);
        dueScript(d, NONE, 10000, 40000, 50000);
        sentence("Command 4 has the digits d2 d3 for x and d4 d5 for y.");
        PowerDiagram upper = withSites(10, 0, 0, 10, 20, 0);
        dueScript(upper, NONE, 40011, 51000);
        dueScript(upper, NONE, 41100, 50000);
        dueScript(d, NONE, 40011, 50000);
        dueScript(d, NONE, 41100, 51000);
        sentence("Then its owner is called the found site.");
        dueScript(d, NONE, 41020, 50000);
        dueScript(hiddenBetween(), NONE, 41005, 50000);
        dueScript(tenSites(), NONE, 41800, 59000);
    }

    private void foundIs() {
        sentence("5 i 0 0 0: succeeds if the found site is i.");
        PowerDiagram d = halves();
        dueScript(d, NONE, 40000, 50000);
        dueScript(d, 1, 40000, 51000);
        dueScript(d, 1, 42000, 50000);
        dueScript(d, NONE, 42000, 51000);
        dueScript(d, NONE, 42000, 40000, 50000);
        dueScript(d, 2, 42000, 40000, 51000);
        sentence("(No site is found before that.)");
        for (int i = 0; i < 10; i++) {
            dueScript(d, 0, 50000 + 1000 * i);
        }
        dueScript(d, 1, 20000, 50000);
        dueScript(new PowerDiagram(), 0, 50000);
        d.runScript(1, 42000);
        dueScript(d, 0, 51000);
        sentence("After a command 1 the found site is forgotten.");
        dueScript(d, 2, 40000, 10000, 50000);
        dueScript(d, 2, 40000, 11000, 50000);
        dueScript(d, 2, 42000, 10000, 51000);
        dueScript(d, 2, 42000, 10000, 50000);
        dueScript(d, 2, 42000, 11000, 51000);
        dueScript(d, NONE, 10000, 42000, 50000);
        sentence("Any other group fails. (command 5 with other digits)");
        dueScript(d, 1, 40000, 50001);
        dueScript(d, 1, 40000, 50010);
        dueScript(d, 1, 40000, 50100);
    }

    private void sizeIsAtLeast() {
        sentence("6 i n n n: succeeds if site i exists and its size is at least nnn.");
        PowerDiagram d = halves();
        dueScript(d, NONE, 60231);
        dueScript(d, 0, 60232);
        dueScript(d, NONE, 61210);
        dueScript(d, 0, 61211);
        dueScript(d, NONE, 60000);
        dueScript(d, 0, 60999);
        dueScript(d, 0, 62000);
        dueScript(d, 0, 69000);
        dueScript(new PowerDiagram(), 0, 60000);
        dueScript(d, NONE, 10000, 60441);
        dueScript(d, 1, 10000, 60442);
        dueScript(d, 1, 10000, 61000);
        dueScript(hiddenBetween(), NONE, 60021);
        dueScript(hiddenBetween(), 0, 60022);
        PowerDiagram twins = withSites(1, 1, 1, 1, 1, 1);
        dueScript(twins, NONE, 61000);
        dueScript(twins, 0, 61001);
    }

    private void otherGroups() {
        sentence("Any other group fails.");
        PowerDiagram d = halves();
        int[] firstDigits = {0, 7, 8, 9};
        for (int digit : firstDigits) {
            dueScript(d, 0, 10000 * digit);
            dueScript(d, 0, 10000 * digit + 1000);
            dueScript(d, 0, 10000 * digit + 9999);
            dueScript(d, 1, 40000, 10000 * digit);
            dueScript(d, 2, 40000, 40000, 10000 * digit);
        }
    }

    private void results() {
        sentence("The index, from 0, of the first command that fails, or NONE if all succeed.");
        PowerDiagram d = halves();
        dueScript(d, 0, 0, 0, 0);
        dueScript(d, 1, 40000, 0, 0);
        dueScript(d, 2, 40000, 40000, 0);
        dueScript(d, NONE, 40000, 40000, 40000);
        dueScript(d, 0, 0, 40000, 40000);
        dueScript(d, 1, 40000, 0, 40000);
        dueScript(d, 1, 40000, 0);
        dueScript(d, NONE, 40000, 40000);
        dueScript(d, 0, 0);
        dueScript(d, NONE, 40000);
    }

    // ---- random samples

    private void samples() {
        numberOfPoints();
        anySeed();
        pointsOfTheSample();
    }

    private void numberOfPoints() {
        sentence("m: number of points, 1 to 200");
        PowerDiagram d = withSites(3, 3, 3);
        int[] wrong = {0, -1, 201, LOW, HIGH};
        for (int m : wrong) {
            due("sample(5, 0, " + m + ")", d.sample(5, 0, m), BAD_VALUE);
            due("sample(5, 1, " + m + ")", d.sample(5, 1, m), NO_SUCH_INDEX);
        }
        for (int m = 1; m <= 200; m++) {
            due("sample(5, 0, " + m + ")", d.sample(5, 0, m), m);
        }
        due("sample(5, 0, 200) of a twin", withSites(3, 3, 3, 3, 3, 3).sample(5, 1, 200), 0);
    }

    private void anySeed() {
        sentence("seed: any long");
        PowerDiagram row = tenSites();
        long[] seeds = {0, 1, -1, Long.MIN_VALUE, Long.MAX_VALUE, 1L << 32, -1L << 32, 6364136223846793005L};
        for (long seed : seeds) {
            int together = 0;
            for (int i = 0; i < 10; i++) {
                together += row.sample(seed, i, 200);
            }
            due("all together with the seed " + seed, together, 200);
        }
    }

    private void pointsOfTheSample() {
        sentence("z is replaced (with long overflow), v = (int) (z >>> 33) % 441 is computed; the point is (v / 21, v % 21).");
        PowerDiagram one = withSites(0, 0, 0, 20, 20, 0);
        long seed = 20261120;
        for (int round = 0; round < 100; round++) {
            long z = seed * 6364136223846793005L + 1442695040888963407L;
            // The 31 highest bits, taken as a whole number without a sign.
            long v = (z < 0 ? (z - Long.MIN_VALUE) / (1L << 33) + (1L << 30) : z / (1L << 33)) % 441;
            int x = (int) v / 21;
            int y = (int) v % 21;
            one.move(0, x, y);
            one.move(1, (x + 10) % 21, (y + 10) % 21);
            due("sample(" + seed + ", 0, 1) at (" + x + ", " + y + ")", one.sample(seed, 0, 1), 1);
            due("sample(" + seed + ", 1, 1) at (" + x + ", " + y + ")", one.sample(seed, 1, 1), 0);
            seed = z;
        }
        PowerDiagram upper = withSites(10, 0, 0, 10, 20, 0);
        for (int m = 1; m <= 200; m += 199) {
            long z = 77;
            int below = 0;
            for (int k = 0; k < m; k++) {
                z = z * 6364136223846793005L + 1442695040888963407L;
                below += Long.remainderUnsigned(z >>> 33, 441) % 21 <= 10 ? 1 : 0;
            }
            due("sample(77, 0, " + m + ")", upper.sample(77, 0, m), below);
            due("sample(77, 1, " + m + ")", upper.sample(77, 1, m), m - below);
        }
    }
}
