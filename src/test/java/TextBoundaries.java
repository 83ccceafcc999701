/** The boundary cases of what the Terms say of the TEXT, and those of the promises 2 to 5. */
final class TextBoundaries extends Boundaries {
    private static final String TERMS = "Terms";
    private static final String APPEND = "Promise 2";
    private static final String CLEAR = "Promise 3";
    private static final String CHECK = "Promise 4";
    private static final String LOAD = "Promise 5";

    TextBoundaries(Checks checks, Document document) {
        super(checks, document);
    }

    @Override
    void runAll() {
        lengthOfTheText();
        oneOrMoreCommands();
        wordAndNumbers();
        sizeInAText();
        chargeInAText();
        needInAText();
        hoursInAText();
        powerInAText();
        hoursToRunInAText();
        settingInAText();
        valueInAText();
        noZerosAhead();
        leftOut();
        noBlanks();
        fromLeftToRight();
        firstThatIsNotAllowed();
        lettersAndDigits();
        endsTooSoon();

        appendACode();
        codesToAppend();
        appendTellsTheLength();
        appendRefusesCodes();
        appendToAFullText();
        clearEmpties();
        clearTellsTheLength();
        checkTellsThePosition();
        loadFromNew();
        loadForgets();
        loadKeepsTheText();
        loadTellsWhatIsLeftOut();
        loadRefuses();
    }

    private void error(String text, int due) {
        due("'" + text + "'", due, Depots.typed(text).errorPosition());
    }

    private void depot(String text) {
        error(text, NONE);
    }

    // ---- TEXT

    private void lengthOfTheText() {
        asksNothing(TERMS, "TEXT");
        says(TERMS, "The object has a text buffer of at most 120 characters.");
        DepotCharge x = new DepotCharge();
        for (int length = 1; length <= 120; length++) {
            due("character " + length, length, x.append('s'));
        }
        refused("character 121", STATE, Depots::withFullText, y -> y.append(';'));
        due("120 characters that are a depot", NONE, Depots.typed(Depots.fullText()).errorPosition());
        due("120 characters, of which the last is wrong", 119,
            Depots.typed(Depots.fullText().substring(0, 119) + 'x').errorPosition());
        due("119 characters, of which a number is missing", 119,
            Depots.typed(Depots.fullText().substring(0, 119)).errorPosition());
    }

    private void oneOrMoreCommands() {
        says(TERMS, "A depot as a text is one or more commands with ; between them.");
        error("", 0);
        error(";", 0);
        depot("run,1");
        error(";run,1", 0);
        error("run,1;", 6);
        depot("run,1;run,2");
        error("run,1;;run,2", 6);
        error("run,1,run,2", 5);
        error("run,1run,2", 5);
        error("run,1;run,2;", 12);
        depot("run,1;plug,2;set,3,4;bus,50,6,7,8,9");
    }

    private void wordAndNumbers() {
        says(TERMS, "A command is a word and numbers, each behind a comma:");
        error("run", 3);
        error("run,", 4);
        error("run1", 3);
        error("ru,1", 2);
        error("r,1", 1);
        error("plu,1", 3);
        error("se,1,1", 2);
        error("bu,10,0,1,0,1", 2);
        error("b,10,0,1,0,1", 1);
        error("run,,1", 4);
        error(",run", 0);
        error("run;", 3);
        error("run,;", 4);
        error("run,1,", 5);
        error("run,1,1", 5);
        error("plug,1,1", 6);
        error("set,1", 5);
        error("set,1;", 5);
        error("set,1,", 6);
        error("set,1,2,", 7);
        error("bus,50,1,1,1", 12);
        error("bus,50,1,1,1;", 12);
        depot("bus,50,1,1,1,2");
        error("bus,50,1,1,1,2,", 14);
    }

    /**
     * Each number from 0 to 1100 at this place of a text: one in the range makes a depot of it. Of another, the first
     * digit with which no number of the range begins any more is wrong, or else what stands behind the number.
     */
    private void numbers(String before, int least, int most, String after) {
        for (int value = 0; value <= 1100; value++) {
            String text = before + value + after;
            if (value >= least && value <= most) {
                depot(text);
            } else {
                error(text, before.length() + countAllowed(Integer.toString(value), least, most));
            }
        }
    }

    private static int countAllowed(String digits, int least, int most) {
        for (int count = 1; count <= digits.length(); count++) {
            boolean begins = false;
            for (int value = least; value <= most; value++) {
                begins |= Integer.toString(value).startsWith(digits.substring(0, count));
            }
            if (!begins) {
                return count - 1;
            }
        }
        return digits.length();
    }

    private void sizeInAText() {
        says(TERMS, "bus, with a size (10 to 400),");
        error("bus,9,0,1,0,1", 5);
        depot("bus,10,0,1,0,1");
        depot("bus,400,0,1,0,1");
        error("bus,401,0,1,0,1", 6);
        error("bus,0,0,1,0,1", 4);
        error("bus,4,0,1,0,1", 5);
        error("bus,410,0,1,0,1", 6);
        error("bus,500,0,1,0,1", 6);
        depot("bus,50,0,1,0,1");
        numbers("bus,", 10, 400, ",0,1,0,1");
    }

    private void chargeInAText() {
        says(TERMS, "a charge (0 to 400),");
        depot("bus,10,0,1,0,1");
        depot("bus,10,400,1,0,1");
        error("bus,10,401,1,0,1", 9);
        error("bus,10,-1,1,0,1", 7);
        error("bus,10,,1,0,1", 7);
        numbers("bus,10,", 0, 400, ",1,0,1");
    }

    private void needInAText() {
        says(TERMS, "a need (1 to 400)");
        error("bus,10,0,0,0,1", 9);
        depot("bus,10,0,1,0,1");
        depot("bus,10,0,400,0,1");
        error("bus,10,0,401,0,1", 11);
        numbers("bus,10,0,", 1, 400, ",0,1");
    }

    private void hoursInAText() {
        says(TERMS, "and two hours (0 to 23): addBus();");
        depot("bus,10,0,1,0,1");
        depot("bus,10,0,1,23,1");
        error("bus,10,0,1,24,1", 12);
        depot("bus,10,0,1,1,0");
        depot("bus,10,0,1,1,23");
        error("bus,10,0,1,1,24", 14);
        depot("bus,10,0,1,2,2");
        error("bus,10,0,1,3,30", 14);
        numbers("bus,10,0,1,", 0, 23, ",1");
        numbers("bus,10,0,1,1,", 0, 23, "");
        DepotCharge x = Depots.typed("bus,400,399,398,23,0");
        due("load", 0, x.load());
        int[] due = {400, 399, 398, 23, 0};
        for (int what = 0; what < 5; what++) {
            due("number " + what + " of the bus", due[what], x.bus(0, what));
        }
    }

    private void powerInAText() {
        says(TERMS, "plug, with a power (1 to 50): addCharger();");
        error("plug,0", 5);
        depot("plug,1");
        depot("plug,50");
        error("plug,51", 6);
        depot("plug,6");
        error("plug,60", 6);
        numbers("plug,", 1, 50, "");
        numbers("run,7;plug,", 1, 50, ";run,1");
        DepotCharge x = Depots.typed("plug,50;plug,1");
        due("load", 0, x.load());
        due("the greatest power", 50, x.charger(0, 0));
        due("the least power", 1, x.charger(1, 0));
    }

    private void hoursToRunInAText() {
        says(TERMS, "run, with hours (1 to 48): run();");
        error("run,0", 4);
        depot("run,1");
        depot("run,48");
        error("run,49", 5);
        depot("run,5");
        error("run,50", 5);
        numbers("run,", 1, 48, "");
        due("the least", 1, Depots.loaded("run,1").about(2));
        due("the greatest", 48, Depots.loaded("run,48").about(2));
    }

    private void settingInAText() {
        says(TERMS, "set, with a setting (0 to 5),");
        depot("set,0,1");
        depot("set,5,1");
        error("set,6,1", 4);
        error("set,10,1", 5);
        numbers("set,", 0, 5, ",1");
        due("the first setting", 1, Depots.loaded("set,0,1").setting(0));
        due("the last setting", 1, Depots.loaded("set,5,1").setting(5));
    }

    private void valueInAText() {
        says(TERMS, "and a value (0 to 999): set().");
        depot("set,3,0");
        depot("set,3,999");
        error("set,3,1000", 9);
        depot("set,0,999");
        depot("set,5,24");
        numbers("set,3,", 0, 999, "");
        due("the least", 0, Depots.loaded("set,3,0").setting(3));
        due("the greatest", 999, Depots.loaded("set,3,999").setting(3));
    }

    private void noZerosAhead() {
        says(TERMS, "Numbers are without zeros ahead.");
        error("run,01", 4);
        error("plug,07", 5);
        error("set,00,1", 5);
        error("set,01,1", 5);
        error("set,1,00", 7);
        error("set,1,07", 7);
        error("bus,010,0,1,0,1", 4);
        error("bus,10,00,1,0,1", 8);
        error("bus,10,05,1,0,1", 8);
        error("bus,10,0,01,0,1", 9);
        error("bus,10,0,1,00,1", 12);
        error("bus,10,0,1,09,1", 12);
        error("bus,10,0,1,0,01", 14);
        depot("set,0,0");
        depot("bus,100,0,10,0,20");
    }

    private void leavesOut(String text, int due) {
        due("'" + text + "'", due, Depots.typed(text).load());
    }

    private void leftOut() {
        says(TERMS, "Commands that would throw an exception are left out.");
        leavesOut("bus,10,10,1,0,1", 0);
        leavesOut("bus,10,11,1,0,1", 1);
        leavesOut("bus,10,10,1,1,1", 1);
        leavesOut("set,0,250", 0);
        leavesOut("set,0,251", 1);
        leavesOut("set,1,99;set,2,99", 0);
        leavesOut("set,1,100;set,2,100", 2);
        leavesOut("set,3,999", 0);
        leavesOut("set,4,0", 1);
        leavesOut("set,4,1;set,4,99", 0);
        leavesOut("set,4,100", 1);
        leavesOut("set,5,23", 0);
        leavesOut("set,5,24", 1);
        leavesOut("plug,1;plug,1;plug,1;plug,1;plug,1", 0);
        leavesOut("plug,1;plug,1;plug,1;plug,1;plug,1;plug,1", 1);
        // Nine buses are longer than the text can be, so the eighth is the last one that can come.
        leavesOut("bus,10,0,1,0,1;bus,10,0,1,0,1;bus,10,0,1,0,1;bus,10,0,1,0,1;bus,10,0,1,0,1;bus,10,0,1,0,1;"
            + "bus,10,0,1,0,1;bus,10,0,1,0,1", 0);
        DepotCharge x = Depots.typed("bus,10,11,1,0,1;plug,7;set,0,251;bus,10,9,1,0,1");
        due("two of four", 2, x.load());
        due("the bus that can be has the number 0", 9, x.bus(0, 1));
        due("it is the only one", 1, x.about(0));
        due("the setting stays", 60, x.setting(0));
    }

    private void noBlanks() {
        says(TERMS, "There are no blanks.");
        error(" run,1", 0);
        error("run ,1", 3);
        error("run, 1", 4);
        error("run,1 ", 5);
        error("run,1; run,1", 6);
        error("run,4 8", 5);
        error("ru n,1", 2);
        error(" ", 0);
    }

    private void fromLeftToRight() {
        says(TERMS, "The text is read from left to right.");
        error("x,run,1", 0);
        error("run,1;x;y", 6);
        error("run,0;run,0", 4);
        due("the commands too", 9, Depots.loaded("set,0,7;set,0,8;set,0,9").setting(0));
        due("the hour 3, then a bus that left before", 0, Depots.loaded("run,3;bus,10,10,1,2,9").about(6));
        due("a bus, then the hour 3", 1, Depots.loaded("bus,10,10,1,2,9;run,3").about(6));
    }

    private void firstThatIsNotAllowed() {
        says(TERMS, "The error position is the index of the first character that these rules do not allow at"
            + " its place");
        error("x", 0);
        error("run,1x", 5);
        error("run,1;plug,0", 11);
        error("RUN,1", 0);
        error("run.1", 3);
        error("run,1:", 5);
        error("run,1/", 5);
        error("run,:", 4);
        error("run,/", 4);
        due("a code above 127", 0, codes(255).errorPosition());
        due("the code 0", 0, codes(0).errorPosition());
        due("the code 0 behind a command", 5, codes('r', 'u', 'n', ',', '1', 0).errorPosition());
    }

    private static DepotCharge codes(int... all) {
        DepotCharge x = new DepotCharge();
        for (int c : all) {
            x.append(c);
        }
        return x;
    }

    private void lettersAndDigits() {
        says(TERMS, "(a letter or a digit is not allowed if no word, or no number in its range, begins with"
            + " it and those"
            + " before it);");
        error("a", 0);
        error("br", 1);
        error("bun", 2);
        error("buss", 3);
        error("pl0g", 2);
        error("plus", 3);
        error("rn", 1);
        error("rum", 2);
        error("runs", 3);
        error("sut", 1);
        error("ser", 2);
        error("sets", 3);
        error("bus,1x", 5);
        error("bus,4x", 5);
        error("bus,40x", 6);
        error("bus,4000", 7);
        error("bus,40,", 7);
        error("run,4a", 5);
        error("1", 0);
        error("run,1;1", 6);
    }

    private void endsTooSoon() {
        says(TERMS, "if the text ends too soon, it is the length of the text.");
        String[] words = {"b", "bu", "bus", "p", "pl", "plu", "plug", "r", "ru", "run", "s", "se", "set"};
        for (String word : words) {
            error(word, word.length());
            error("run,1;" + word, 6 + word.length());
        }
        error("", 0);
        error("bus,", 4);
        error("bus,1", 5);
        error("bus,9", 5);
        error("bus,10", 6);
        error("bus,10,", 7);
        error("bus,10,0,1,0", 12);
        error("bus,10,0,1,0,", 13);
        error("plug,", 5);
        error("set,5", 5);
        error("set,5,", 6);
        error("run,1;", 6);
    }

    // ---- 2

    private void appendACode() {
        says(APPEND, "Appends a character to the text buffer.");
        DepotCharge x = Depots.typed("run,");
        due("before", 4, x.errorPosition());
        x.append('1');
        due("behind the others", NONE, x.errorPosition());
    }

    private void codesToAppend() {
        says(APPEND, "c: character code, 0 to 255");
        within(0, 255, ARGUMENT, Depots::busy, (y, c) -> y.append(c));
        for (int c = 0; c <= 255; c++) {
            due("code " + c, 1, codes(c).clearText());
        }
    }

    private void appendTellsTheLength() {
        says(APPEND, "Returns the new length of the text.");
        due("the first one", 1, new DepotCharge().append('x'));
        due("behind 12", 13, Depots.busy().append('x'));
        due("the last one", 120, Depots.busy(Depots.fullText().substring(0, 119)).append('x'));
    }

    private void appendRefusesCodes() {
        says(APPEND, "Throws IllegalArgumentException if c is out of range");
        refused("-1", ARGUMENT, Depots::busy, x -> x.append(-1));
        refused("256", ARGUMENT, Depots::busy, x -> x.append(256));
        refused("a letter, and 65536 more", ARGUMENT, Depots::busy, x -> x.append('b' + 65536));
        refused("-1, when the text is empty", ARGUMENT, DepotCharge::new, x -> x.append(-1));
    }

    private void appendToAFullText() {
        says(APPEND, "Throws IllegalStateException if the text already has 120 characters");
        due("with 119", 120, Depots.busy(Depots.fullText().substring(0, 119)).append('0'));
        refused("with 120", STATE, Depots::withFullText, x -> x.append('0'));
        DepotCharge x = Depots.withFullText();
        due("with 120, checked", NONE, x.errorPosition());
        x.clearText();
        due("when it is empty again", 1, x.append('0'));
    }

    // ---- 3

    private void clearEmpties() {
        says(CLEAR, "Empties the text buffer.");
        DepotCharge x = Depots.typed("run,1");
        x.clearText();
        due("as the empty text", 0, x.errorPosition());
        due("the next character is the first", 1, x.append('r'));
        due("nothing old stands behind it", 1, x.errorPosition());
        DepotCharge full = Depots.withFullText();
        full.clearText();
        due("a full text, emptied", 0, full.clearText());
    }

    private void clearTellsTheLength() {
        says(CLEAR, "Returns the previous length of the text.");
        due("of an empty text", 0, new DepotCharge().clearText());
        due("of one character", 1, codes('x').clearText());
        due("of 120 characters", 120, Depots.withFullText().clearText());
    }

    // ---- 4

    private void checkTellsThePosition() {
        asksNothing(CHECK, "Checks the text.");
        says(CHECK, "Returns the error position of the text; NONE if it is a depot.");
        error("", 0);
        error("x", 0);
        error("run,1;x", 6);
        error("run", 3);
        depot("run,1");
        depot(Depots.fullText());
        due("a depot with commands that are left out", NONE, Depots.typed("set,5,24;bus,10,11,1,1,1").errorPosition());
    }

    // ---- 5

    private void loadFromNew() {
        says(LOAD, "Makes everything as in a new object, and then does the commands of the text.");
        DepotCharge x = Depots.busy();
        x.load();
        due("as the text in a new object", Depots.stateOf(Depots.loaded("plug,9;run,4")), Depots.stateOf(x));
        due("no bus", 0, x.about(0));
        due("one charger", 1, x.about(1));
        due("the hour", 4, x.about(2));
        due("nothing is paid", 0, x.about(3));
        due("the limit at first", 60, x.setting(0));
        x.load();
        due("the hour, loaded twice", 4, x.about(2));
        due("one charger, loaded twice", 1, x.about(1));
        DepotCharge used = Depots.typed("bus,50,49,50,0,12;bus,50,50,50,0,12;plug,1");
        used.load();
        String fresh = Depots.stateOf(used);
        used.run(1);
        due("missed before", 1, used.about(5));
        due("gone before", 1, used.about(6));
        used.load();
        due("none missed or gone, nothing paid or charged, no bus worn or out", fresh, Depots.stateOf(used));
    }

    private void loadForgets() {
        says(LOAD, "Behind it no state is remembered, and both save slots are empty.");
        DepotCharge x = Depots.busy();
        x.load();
        due("undo", STATE, Checks.told(() -> x.undo()));
        due("slot 0", STATE, Checks.told(() -> x.restore(0)));
        due("slot 1", STATE, Checks.told(() -> x.restore(1)));
        x.set(0, 7);
        due("an action behind it is remembered", 0, x.undo());
        x.save(0);
        due("a slot behind it can be filled", 4, x.restore(0));
        due("and the other one stays empty", STATE, Checks.told(() -> x.restore(1)));
    }

    private void loadKeepsTheText() {
        says(LOAD, "Keeps the text.");
        DepotCharge x = Depots.busy();
        x.load();
        due("checked", NONE, x.errorPosition());
        due("its length", 12, x.clearText());
        DepotCharge full = Depots.withFullText();
        full.load();
        due("the length of the longest", 120, full.clearText());
    }

    private void loadTellsWhatIsLeftOut() {
        says(LOAD, "Returns the number of commands that are left out.");
        due("none", 0, Depots.typed("set,0,250").load());
        due("one", 1, Depots.typed("set,0,251").load());
        due("all of three", 3, Depots.typed("set,0,251;set,4,0;set,5,24").load());
        due("none of the most", 0, Depots.withFullText().load());
        due("the sixth and the seventh charger", 2,
            Depots.typed("plug,1;plug,1;plug,1;plug,1;plug,1;plug,1;plug,1").load());
    }

    private void loadRefuses() {
        says(LOAD, "Throws IllegalStateException if the text is not a depot");
        refused("no text", STATE, () -> Depots.busy(""), x -> x.load());
        refused("a command less", STATE, Depots::withBadText, x -> x.load());
        refused("a number too large", STATE, () -> Depots.busy("plug,9;run,49"), x -> x.load());
        refused("a blank", STATE, () -> Depots.busy("plug,9;run,4 "), x -> x.load());
        due("a depot", 0, Depots.busy("plug,9;run,48").load());
    }
}
