/** The boundary cases of 'SETUP TEXT', sentence by sentence. */
public final class SetupTextTests extends Section {
    private static final String TEN = "P" + "0000000".repeat(4) + "2020400".repeat(3) + "1909399".repeat(3);

    private SetupTextTests() {
    }

    public static void main(String[] args) {
        SetupTextTests tests = new SetupTextTests();
        tests.atMostEightyCharacters();
        tests.anyCharacter();
        tests.noneToTenSites();
        tests.limitsOfTheDigits();
        tests.everyCharacterEverywhere();
        tests.firstWrongCharacter();
        tests.tooShort();
        tests.tooLong();
        tests.emptyText();
        tests.loadReplaces();
        tests.loadForgets();
        tests.loadKeeps();
        tests.loadIsRefused();
        tests.check.finish();
    }

    private void atMostEightyCharacters() {
        sentence("The object has a text buffer of at most 80 characters.");
        PowerDiagram d = new PowerDiagram();
        for (int k = 1; k <= 80; k++) {
            due("append of character " + k, d.append('0'), k);
        }
        due("append of character 81", d.append('0'), FULL);
        due("append of character 81 again", d.append('P'), FULL);
        due("clearText()", d.clearText(), 80);
        due("append after that", d.append('P'), 1);
        due("errorPosition()", d.errorPosition(), NONE);
        write(d, "0".repeat(79));
        due("errorPosition() of 80 characters", d.errorPosition(), 71);
        due("load() of 80 characters", d.load(), NOT_POSSIBLE);
        due("append to 80 characters", d.append('0'), FULL);
    }

    private void anyCharacter() {
        sentence("c: character code, 0 to 255");
        PowerDiagram d = new PowerDiagram();
        int[] wrong = {-1, 256, LOW, HIGH, 'P' + 256, 'P' - 256, '0' + 65536};
        for (int c : wrong) {
            due("append(" + c + ")", d.append(c), BAD_VALUE);
        }
        due("clearText()", d.clearText(), 0);
        int[] right = {0, 1, 127, 128, 254, 255};
        for (int k = 0; k < right.length; k++) {
            due("append(" + right[k] + ")", d.append(right[k]), k + 1);
        }
        due("errorPosition()", d.errorPosition(), 0);
    }

    private void noneToTenSites() {
        sentence("A setup is the letter P followed by 0 to 10 sites.");
        for (int sites = 0; sites <= 10; sites++) {
            PowerDiagram d = withText(TEN.substring(0, 1 + 7 * sites));
            due("errorPosition() of " + sites + " sites", d.errorPosition(), NONE);
            due("load() of " + sites + " sites", d.load(), sites);
            due("siteCount()", d.siteCount(), sites);
        }
        PowerDiagram ten = withText(TEN);
        ten.load();
        dueSites(ten, 0, 0, 0, 0, 0, 0, 0, 0, 0, 0, 0, 0, 20, 20, 400, 20, 20, 400, 20, 20, 400, 19, 9, 399, 19, 9, 399,
            19, 9, 399);
        due("add to ten sites", ten.add(0, 0, 0), FULL);
        PowerDiagram eleven = withText(TEN + "0000000");
        due("errorPosition() of 11 sites", eleven.errorPosition(), 71);
        due("load() of 11 sites", eleven.load(), NOT_POSSIBLE);
        due("siteCount()", eleven.siteCount(), 0);
    }

    private void dueErrorPosition(String text, int want) {
        due("errorPosition() of " + text, withText(text).errorPosition(), want);
    }

    private void limitsOfTheDigits() {
        sentence("Its x (two digits, 00 to 20), its y (two digits, 00 to 20) and its weight (three digits, 000 to 400).");
        for (int v = 0; v <= 99; v++) {
            String two = "" + v / 10 + v % 10;
            int place = v < 30 ? 1 : 0;
            dueErrorPosition("P" + two + "00000", v <= 20 ? NONE : 1 + place);
            dueErrorPosition("P00" + two + "000", v <= 20 ? NONE : 3 + place);
        }
        for (int w = 0; w <= 999; w++) {
            String three = "" + w / 100 + w / 10 % 10 + w % 10;
            int place = w >= 500 ? 0 : w >= 410 ? 1 : 2;
            dueErrorPosition("P0000" + three, w <= 400 ? NONE : 5 + place);
        }
        PowerDiagram d = withText("P20002342000400");
        due("load()", d.load(), 2);
        dueSites(d, 20, 0, 234, 20, 0, 400);
    }

    /** A text can go on to a setup just if noughts behind it make one. */
    private static boolean canGoOn(String text) {
        if (text.isEmpty() || text.charAt(0) != 'P' || text.length() > 71) {
            return text.isEmpty();
        }
        String sites = text.substring(1) + "0".repeat(70);
        for (int k = 0; k < 70; k += 7) {
            String site = sites.substring(k, k + 7);
            if (!site.matches("[0-9]{7}")) {
                return false;
            }
            boolean small = Integer.parseInt(site.substring(0, 2)) <= 20 && Integer.parseInt(site.substring(2, 4)) <= 20;
            if (!small || Integer.parseInt(site.substring(4)) > 400) {
                return false;
            }
        }
        return true;
    }

    private void everyCharacterEverywhere() {
        sentence("The first character such that no setup starts with the text up to and including that character.");
        for (int place = 0; place <= 72; place++) {
            String before = (TEN + "0".repeat(9)).substring(0, place);
            for (int c = 0; c < 256; c++) {
                String text = before + (char) c;
                int want = text.length() > 71 ? 71 : place;
                if (canGoOn(text)) {
                    want = text.length() % 7 == 1 ? NONE : text.length();
                }
                due("errorPosition() of " + before + " and " + c, withText(text).errorPosition(), want);
            }
        }
    }

    private void firstWrongCharacter() {
        sentence("The error position is the index of the first character. (several are wrong)");
        dueErrorPosition("pP", 0);
        dueErrorPosition("0000000", 0);
        dueErrorPosition("XXXXXXXX", 0);
        dueErrorPosition("P2121401", 2);
        dueErrorPosition("P2021401", 4);
        dueErrorPosition("P2020401", 7);
        dueErrorPosition("P2020500", 5);
        dueErrorPosition("P2020410", 6);
        dueErrorPosition("P00000003", 8);
        dueErrorPosition("P0000000P", 8);
        sentence("There are no separators.");
        dueErrorPosition("P 0000000", 1);
        dueErrorPosition("P00 00000", 3);
        dueErrorPosition("P0000000 0000000", 8);
        dueErrorPosition("P0000000,0000000", 8);
        dueErrorPosition("P0000000\n", 8);
        dueErrorPosition("P\0", 1);
    }

    private void tooShort() {
        sentence("No such character, but not a complete setup: the error position is the length of the text.");
        for (int length = 0; length <= 71; length++) {
            PowerDiagram d = withText(TEN.substring(0, length));
            boolean complete = length % 7 == 1;
            due("errorPosition() of " + length + " characters", d.errorPosition(), complete ? NONE : length);
            due("load() of " + length + " characters", d.load(), complete ? length / 7 : NOT_POSSIBLE);
        }
    }

    private void tooLong() {
        sentence("0 to 10 sites. (more characters)");
        for (int more = 1; more <= 9; more++) {
            PowerDiagram d = withText(TEN + "0".repeat(more));
            due("errorPosition() with " + more + " more", d.errorPosition(), 71);
            due("load() with " + more + " more", d.load(), NOT_POSSIBLE);
            due("clearText() with " + more + " more", d.clearText(), 71 + more);
        }
    }

    private void emptyText() {
        sentence("Empties the text buffer.");
        PowerDiagram d = new PowerDiagram();
        due("errorPosition() of a new object", d.errorPosition(), 0);
        due("load() of a new object", d.load(), NOT_POSSIBLE);
        due("clearText() of a new object", d.clearText(), 0);
        write(d, "P0101001");
        due("clearText()", d.clearText(), 8);
        due("clearText() again", d.clearText(), 0);
        due("errorPosition()", d.errorPosition(), 0);
        due("load()", d.load(), NOT_POSSIBLE);
        write(d, "0101001");
        due("errorPosition() without P", d.errorPosition(), 0);
        d.clearText();
        write(d, "P01");
        due("errorPosition() of less than before", d.errorPosition(), 3);
    }

    private void loadReplaces() {
        sentence("Replaces all sites by those of the setup in the text.");
        PowerDiagram d = tenSites();
        write(d, "P0506007");
        due("load() of one site over ten", d.load(), 1);
        dueSites(d, 5, 6, 7);
        due("load() again", d.load(), 1);
        dueSites(d, 5, 6, 7);
        d.clearText();
        write(d, "P");
        due("load() of no sites", d.load(), 0);
        dueSites(d);
        due("owner(3, 3)", d.owner(3, 3), NONE);
        due("add(1, 2, 3)", d.add(1, 2, 3), 0);
    }

    private void loadForgets() {
        sentence("Forgets all remembered states and empties both save slots.");
        PowerDiagram d = tenSites();
        d.save(0);
        d.save(1);
        write(d, "P");
        due("load()", d.load(), 0);
        due("undo()", d.undo(), NOT_POSSIBLE);
        due("restore(0)", d.restore(0), NOT_POSSIBLE);
        due("restore(1)", d.restore(1), NOT_POSSIBLE);
        d.add(1, 2, 3);
        due("undo() of what came after", d.undo(), 0);
        due("undo() of more", d.undo(), NOT_POSSIBLE);
        d.save(1);
        due("restore(0) of the other slot", d.restore(0), NOT_POSSIBLE);
        due("restore(1)", d.restore(1), 0);
    }

    private void loadKeeps() {
        sentence("Keeps the text and the observations.");
        PowerDiagram d = withText("P0506007");
        for (int k = 0; k < 6; k++) {
            d.observe(k, k, 0);
        }
        due("load()", d.load(), 1);
        due("observe of a seventh", d.observe(0, 0, 0), FULL);
        due("possibleWeights(0, 0)", d.possibleWeights(0, 0), 401);
        due("errorPosition()", d.errorPosition(), NONE);
        due("append('2')", d.append('2'), 9);
        due("clearText()", d.clearText(), 9);
        due("clearObservations()", d.clearObservations(), 6);
        due("site(0, 2)", d.site(0, 2), 7);
    }

    private void loadIsRefused() {
        sentence("NOT_POSSIBLE if the text is not a complete setup.");
        String[] texts = {"", "P0", "P000000", "P00000000", "P0000401", "p", TEN + "0"};
        for (String text : texts) {
            PowerDiagram d = withSites(1, 2, 3, 4, 5, 6);
            d.save(1);
            write(d, text);
            due("load() of " + text, d.load(), NOT_POSSIBLE);
            dueSites(d, 1, 2, 3, 4, 5, 6);
            due("undo()", d.undo(), 1);
            due("restore(1)", d.restore(1), 2);
            due("clearText()", d.clearText(), text.length());
        }
    }
}
