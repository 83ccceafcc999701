/** The promises one by one, with answers that were worked out by hand from the document. */
final class PromiseTests {
    private static final String ARGUMENT = Checks.ARGUMENT;
    private static final String STATE = Checks.STATE;
    private static final String INDEX = Checks.INDEX;

    private final Checks checks;

    PromiseTests(Checks checks) {
        this.checks = checks;
    }

    void runAll() {
        newObject();
        append();
        clearText();
        errorPositionOfWords();
        errorPositionOfNumbers();
        errorPositionOfTextsThatEnd();
        load();
        loadLeavesOut();
        loadForgets();
        loadRefuses();
        about();
        busNumbers();
        busInTheHour();
        busLeavesNext();
        chargerNumbers();
        sign();
        setting();
        addBus();
        addCharger();
        route();
        battery();
        run();
        lineForTheChargers();
        fullDepot();
        night();
        wear();
        set();
        undo();
        undoRemembersFourteen();
        everyActionCanBeUndone();
        coming();
        firstMissed();
        leastLimit();
        bestNight();
        bestNightIsTheLowest();
        ifPlugged();
        scriptsDo();
        scriptsAsk();
        scriptsAreRefused();
        simulate();
        saveAndRestore();
        nothingElseChanges();
    }

    private void same(String name, long due, long got) {
        checks.same(name, due, got);
    }

    private void fails(String name, String exception, Checks.Call call) {
        checks.fails(name, exception, call);
    }

    // ---- 1

    private void newObject() {
        DepotCharge x = new DepotCharge();
        same("1: NONE", -1, DepotCharge.NONE);
        for (int what = 0; what <= 10; what++) {
            same("1: about " + what, what == 9 ? 1 : 0, x.about(what));
        }
        int[] settings = {60, 5, 2, 100, 20, 22};
        for (int what = 0; what <= 5; what++) {
            same("1: setting " + what, settings[what], x.setting(what));
        }
        fails("1: no bus", INDEX, () -> x.bus(0, 0));
        fails("1: no charger", INDEX, () -> x.charger(0, 0));
        fails("1: nothing to undo", STATE, () -> x.undo());
        fails("1: nothing saved in 0", STATE, () -> x.restore(0));
        fails("1: nothing saved in 1", STATE, () -> x.restore(1));
        same("1: no text", 0, x.clearText());
    }

    // ---- 2, 3

    private void append() {
        DepotCharge x = new DepotCharge();
        same("2: the least", 1, x.append(0));
        same("2: the greatest", 2, x.append(255));
        fails("2: below", ARGUMENT, () -> x.append(-1));
        fails("2: above", ARGUMENT, () -> x.append(256));
        fails("2: far above", ARGUMENT, () -> x.append('b' + 65536));
        same("2: the refused are not there", 3, x.append('b'));
        for (int length = 4; length <= 120; length++) {
            same("2: length", length, x.append(';'));
        }
        fails("2: full", STATE, () -> x.append('b'));
        fails("2: full, and out of range", ARGUMENT, () -> x.append(256));
        same("2: still 120", 120, x.clearText());
        same("2: room again", 1, x.append('b'));
    }

    private void clearText() {
        DepotCharge x = Depots.typed("bus");
        same("3: previous length", 3, x.clearText());
        same("3: empty", 0, x.clearText());
        same("3: checked as empty", 0, x.errorPosition());
        Depots.type(x, "run,1");
        same("3: new text", DepotCharge.NONE, x.errorPosition());
        same("3: is the text", 5, x.clearText());
    }

    // ---- 4

    private void error(String text, int due) {
        same("4: '" + text + "'", due, Depots.typed(text).errorPosition());
    }

    private void errorPositionOfWords() {
        error("bus,10,0,1,0,1", -1);
        error("plug,1", -1);
        error("run,1", -1);
        error("set,0,0", -1);
        error("set,0,0;plug,50;run,48;bus,400,400,400,23,23", -1);
        error("x", 0);
        error("Bus", 0);
        error(" run,1", 0);
        error("1", 0);
        error(",", 0);
        error(";", 0);
        error("bun,1", 2);
        error("plus,1", 3);
        error("ran,1", 1);
        error("sat,1", 1);
        error("buss", 3);
        error("bus;", 3);
        error("bus 10", 3);
        error("run1", 3);
        error("run,1;;", 6);
        error("run,1;x", 6);
        error("run,1 ", 5);
        error("run,1,1", 5);
        error("run,,1", 4);
        error("set,1;", 5);
        error("set,1,1,", 7);
        error("plug,5,5", 6);
        error("bus,10,0,1,0;", 12);
        error("bus,10,0,1,0,1,", 14);
        same("4: a code above 127", 0, codes(233, 'r').errorPosition());
        same("4: the code 0", 3, codes('r', 'u', 'n', 0).errorPosition());
    }

    private static DepotCharge codes(int... all) {
        DepotCharge x = new DepotCharge();
        for (int c : all) {
            x.append(c);
        }
        return x;
    }

    private void errorPositionOfNumbers() {
        error("run,0", 4);
        error("run,48", -1);
        error("run,49", 5);
        error("run,5", -1);
        error("run,50", 5);
        error("run,100", 6);
        error("run,-1", 4);
        error("run,+1", 4);
        error("plug,0", 5);
        error("plug,50", -1);
        error("plug,51", 6);
        error("plug,6", -1);
        error("plug,60", 6);
        error("set,5,999", -1);
        error("set,5,1000", 9);
        error("set,6,1", 4);
        error("set,00", 5);
        error("set,0,00", 7);
        error("set,0,01", 7);
        error("set,10,1", 5);
        error("bus,9,0,1,0,1", 5);
        error("bus,09", 4);
        error("bus,0", 4);
        error("bus,41,0,1,0,1", -1);
        error("bus,400,0,1,0,1", -1);
        error("bus,401,", 6);
        error("bus,41,", 7);
        error("bus,410,", 6);
        error("bus,1000", 7);
        error("bus,10,400,1,0,1", -1);
        error("bus,10,401,", 9);
        error("bus,10,0,0,", 9);
        error("bus,10,0,400,0,1", -1);
        error("bus,10,0,401,0,1", 11);
        error("bus,10,0,1,23,0", -1);
        error("bus,10,0,1,24,0", 12);
        error("bus,10,0,1,3,0", -1);
        error("bus,10,0,1,30,0", 12);
        error("bus,10,0,1,0,23", -1);
        error("bus,10,0,1,0,24", 14);
        error("bus,10,0,1,0,03", 14);
        // An hour twice, or too large a charge, is a matter of the commands, not of the text.
        error("bus,10,11,1,5,5", -1);
        error("set,5,24", -1);
    }

    private void errorPositionOfTextsThatEnd() {
        String text = "bus,10,0,1,0,1;plug,1;set,0,0";
        String complete = "bus,10,0,1,0,1|bus,10,0,1,0,1;plug,1|bus,10,0,1,0,1;plug,1;set,0,0";
        for (int length = 0; length <= text.length(); length++) {
            String begin = text.substring(0, length);
            boolean isDepot = length > 0 && ("|" + complete + "|").contains("|" + begin + "|");
            error(begin, isDepot ? -1 : length);
        }
        error("bus,1", 5);
        error("bus,1,", 5);
        StringBuilder longest = new StringBuilder("set,0,10");
        for (int i = 0; i < 14; i++) {
            longest.append(";set,0,1");
        }
        same("4: the length of the longest text", 120, longest.length());
        error(longest.toString(), -1);
        longest.setCharAt(118, ';');
        error(longest.toString(), 118);
    }

    // ---- 5

    private void load() {
        String text = "bus,100,20,60,6,18;bus,200,150,160,6,9;plug,10;plug,30;run,5;set,0,40";
        DepotCharge x = Depots.typed(text);
        same("5: nothing left out", 0, x.load());
        same("5: buses", 2, x.about(0));
        same("5: chargers", 2, x.about(1));
        same("5: hour", 5, x.about(2));
        same("5: limit", 40, x.setting(0));
        // The bus 0 lacks more, so it is at the charger with 30; 2 units are paid for each.
        same("5: charge of 0", 100, x.bus(0, 1));
        same("5: charge of 1", 200, x.bus(1, 1));
        same("5: units", 130, x.about(4));
        same("5: paid", 260, x.about(3));
        same("5: keeps the text", text.length(), x.clearText());
    }

    private void loadLeavesOut() {
        DepotCharge x = Depots.typed(
            "bus,10,11,1,5,6;bus,10,10,1,5,5;bus,10,10,1,5,6;set,5,24;set,4,0;set,0,251;set,3,999");
        same("5: left out", 5, x.load());
        same("5: one bus", 1, x.about(0));
        same("5: the setting that can be", 999, x.setting(3));
        same("5: the setting that can't be", 22, x.setting(5));
        DepotCharge plugs = Depots.typed("plug,1;plug,2;plug,3;plug,4;plug,5;plug,6;plug,7");
        same("5: too many chargers", 2, plugs.load());
        same("5: five of them", 5, plugs.about(1));
        same("5: the last one is the fifth", 5, plugs.charger(4, 0));
        DepotCharge again = Depots.typed("plug,9");
        again.addCharger(1);
        same("5: at a depot that is not new", 0, again.load());
        same("5: the commands alone count", 1, again.about(1));
        same("5: twice", 0, again.load());
        same("5: twice, from new", 1, again.about(1));
        same("5: twice, power", 9, again.charger(0, 0));
        // Eight buses fill the depot: the ninth is left out.
        DepotCharge full = Depots.typed("bus,10,0,1,0,1;bus,10,0,1,0,1;bus,10,0,1,0,1;bus,10,0,1,0,1;bus,10,0,1,0,1;"
            + "bus,10,0,1,0,1;bus,10,0,1,0,1");
        same("5: seven", 0, full.load());
        full.addBus(10, 0, 1, 0, 1);
        fails("5: and one is eight", STATE, () -> full.addBus(10, 0, 1, 0, 1));
    }

    private void loadForgets() {
        DepotCharge x = Depots.typed("set,5,0;run,9");
        x.addBus(50, 50, 20, 1, 2);
        x.addCharger(7);
        x.set(1, 33);
        x.run(3);
        x.save(0);
        x.save(1);
        same("5: load", 0, x.load());
        fails("5: no state is remembered", STATE, () -> x.undo());
        fails("5: slot 0 is empty", STATE, () -> x.restore(0));
        fails("5: slot 1 is empty", STATE, () -> x.restore(1));
        checks.same("5: as in a new object", Depots.stateOf(Depots.loaded("set,5,0;run,9")), Depots.stateOf(x));
        same("5: hour", 9, x.about(2));
        same("5: gone", 0, x.about(6));
        same("5: day price", 5, x.setting(1));
        x.save(1);
        same("5: a slot can be filled again", 9, x.restore(1));
        DepotCharge out = Depots.typed("bus,50,50,50,0,9;bus,50,0,50,0,9;plug,1");
        out.load();
        out.run(1);
        out.load();
        same("5: nothing was missed", 0, out.about(5));
        same("5: nothing was gone", 0, out.about(6));
        same("5: nothing was paid", 0, out.about(3));
        same("5: nothing was charged", 0, out.about(4));
        same("5: the bus is in the depot", 0, out.bus(0, 6));
        same("5: the bus has no wear", 0, out.bus(0, 5));
    }

    private void loadRefuses() {
        DepotCharge x = new DepotCharge();
        fails("5: the empty text", STATE, () -> x.load());
        x.addBus(50, 40, 20, 1, 2);
        x.save(0);
        x.set(0, 7);
        Depots.type(x, "plug,5;");
        String before = Depots.stateOf(x);
        fails("5: no depot", STATE, () -> x.load());
        checks.same("5: changes nothing", before, Depots.stateOf(x));
        same("5: the states are remembered", 1, x.undo());
        same("5: the slot is filled", 0, x.restore(0));
        same("5: the text is kept", 7, x.errorPosition());
    }

    // ---- 6

    private void about() {
        DepotCharge x = new DepotCharge();
        x.addBus(100, 90, 60, 0, 5);
        x.addBus(100, 20, 60, 0, 5);
        x.addBus(100, 60, 60, 9, 10);
        x.addBus(100, 59, 60, 9, 10);
        x.addCharger(10);
        same("6: buses", 4, x.about(0));
        same("6: chargers", 1, x.about(1));
        same("6: low before", 2, x.about(8));
        same("6: together before", 229, x.about(10));
        same("6: out before", 0, x.about(7));
        // The bus 0 leaves, the route of 1 is missed; 3 leaves before 1, so it gets 10 units.
        x.run(1);
        same("6: hour", 1, x.about(2));
        same("6: paid", 120, x.about(3));
        same("6: units", 10, x.about(4));
        same("6: missed", 1, x.about(5));
        same("6: gone", 1, x.about(6));
        same("6: out", 1, x.about(7));
        same("6: low, not counting the one that is out", 1, x.about(8));
        same("6: night", 1, x.about(9));
        same("6: together, with the one that is out", 179, x.about(10));
        x.run(25);
        same("6: the hour is not of the day", 26, x.about(2));
        fails("6: below", ARGUMENT, () -> x.about(-1));
        fails("6: above", ARGUMENT, () -> x.about(11));
        fails("6: far", ARGUMENT, () -> x.about(Integer.MIN_VALUE));
    }

    // ---- 7

    private void busNumbers() {
        DepotCharge x = new DepotCharge();
        x.addBus(100, 90, 60, 1, 5);
        x.addBus(200, 20, 70, 3, 2);
        int[] due = {200, 20, 70, 3, 2, 0, 0, 0, -1, 3};
        for (int what = 0; what <= 9; what++) {
            same("7: number " + what, due[what], x.bus(1, what));
        }
        x.run(2);
        same("7: out", 1, x.bus(0, 6));
        same("7: charge of the one that is out", 30, x.bus(0, 1));
        same("7: wear", 2, x.bus(0, 5));
        same("7: leaves next though out", 23, x.bus(0, 9));
        x.run(4);
        same("7: back", 0, x.bus(0, 6));
        fails("7: bus below", INDEX, () -> x.bus(-1, 0));
        fails("7: bus above", INDEX, () -> x.bus(2, 0));
        fails("7: both wrong", INDEX, () -> x.bus(2, 10));
        fails("7: what below", ARGUMENT, () -> x.bus(0, -1));
        fails("7: what above", ARGUMENT, () -> x.bus(0, 10));
    }

    private void busInTheHour() {
        DepotCharge x = new DepotCharge();
        x.set(5, 12);
        x.addBus(100, 50, 60, 0, 1);
        x.addBus(100, 60, 60, 0, 1);
        x.addBus(100, 99, 100, 5, 6);
        x.addBus(100, 99, 99, 5, 6);
        x.addBus(100, 100, 200, 5, 6);
        x.addCharger(20);
        x.addCharger(30);
        // 2 leaves in 5 hours, 0 in 24 (its route is missed now), 1 leaves now, 3 wants nothing by day, 4 is full.
        int[] units = {20, 0, 1, 0, 0};
        int[] at = {0, -1, 1, -1, -1};
        for (int b = 0; b < 5; b++) {
            same("7: units of " + b, units[b], x.bus(b, 7));
            same("7: charger of " + b, at[b], x.bus(b, 8));
        }
        same("7: nothing has gone by", 0, x.about(2));
        same("7: the bus has not left", 0, x.bus(1, 6));
        same("7: the run does so", 21, x.run(1));
        // Bus 1 comes back in this hour, and is charged in it.
        same("7: is out", 1, x.bus(1, 6));
        same("7: comes back and is charged", 30, x.bus(1, 7));
        same("7: at the strongest", 1, x.bus(1, 8));
        x.set(0, 25);
        same("7: not more than the limit", 25, x.bus(1, 7));
        x.route(0, 71, 3, 4);
        same("7: the sooner one gets it", 25, x.bus(0, 7));
        same("7: nothing is left for the other", 0, x.bus(1, 7));
        same("7: but it is at the next charger", 0, x.bus(1, 8));
    }

    private void busLeavesNext() {
        DepotCharge x = new DepotCharge();
        x.addBus(10, 0, 1, 0, 1);
        x.addBus(10, 0, 1, 23, 1);
        x.addBus(10, 0, 1, 1, 2);
        same("7: leaves at this hour", 24, x.bus(0, 9));
        same("7: leaves at 23", 23, x.bus(1, 9));
        same("7: leaves at the next", 1, x.bus(2, 9));
        x.run(23);
        same("7: across midnight", 1, x.bus(0, 9));
        same("7: at 23 now", 24, x.bus(1, 9));
        same("7: two hours on", 2, x.bus(2, 9));
    }

    // ---- 8

    private void chargerNumbers() {
        DepotCharge x = new DepotCharge();
        int[] powers = {10, 30, 5, 30, 10};
        for (int power : powers) {
            x.addCharger(power);
        }
        int[] places = {2, 0, 4, 1, 3};
        for (int c = 0; c < 5; c++) {
            same("8: power " + c, powers[c], x.charger(c, 0));
            same("8: place " + c, places[c], x.charger(c, 1));
            same("8: nobody at " + c, -1, x.charger(c, 2));
        }
        x.addBus(100, 99, 50, 5, 6);
        x.addBus(100, 0, 50, 5, 6);
        x.addBus(100, 100, 50, 5, 6);
        int[] at = {-1, 1, -1, 0, -1};
        for (int c = 0; c < 5; c++) {
            same("8: bus at " + c, at[c], x.charger(c, 2));
        }
        x.set(0, 0);
        same("8: also if there is no limit left", 0, x.charger(3, 2));
        fails("8: charger below", INDEX, () -> x.charger(-1, 0));
        fails("8: charger above", INDEX, () -> x.charger(5, 0));
        fails("8: both wrong", INDEX, () -> x.charger(5, 3));
        fails("8: what below", ARGUMENT, () -> x.charger(0, -1));
        fails("8: what above", ARGUMENT, () -> x.charger(0, 3));
    }

    // ---- 9

    private void sign() {
        DepotCharge x = new DepotCharge();
        x.addBus(100, 99, 60, 1, 5);
        x.addBus(100, 100, 60, 9, 10);
        x.addBus(400, 399, 400, 9, 10);
        x.addBus(10, 10, 10, 9, 10);
        x.addBus(10, 0, 10, 9, 10);
        x.addBus(50, 50, 51, 9, 10);
        x.addBus(120, 100, 100, 9, 10);
        String[] signs = {"b0 99/100 ok", "b1 100!/100 full", "b2 399!/400 low", "b3 10/10 full", "b4 0/10 low",
            "b5 50/50 low", "b6 100!/120 ok"};
        for (int b = 0; b < signs.length; b++) {
            checks.same("9: sign of " + b, signs[b], Depots.signOf(x, b));
        }
        same("9: behind the end", -1, x.sign(3, 13));
        same("9: far behind the end", -1, x.sign(3, Integer.MAX_VALUE));
        x.run(2);
        checks.same("9: out goes ahead of low", "b0 39/100 out", Depots.signOf(x, 0));
        fails("9: bus below", INDEX, () -> x.sign(-1, 0));
        fails("9: bus above", INDEX, () -> x.sign(7, 0));
        fails("9: both wrong", INDEX, () -> x.sign(7, -1));
        fails("9: index below", ARGUMENT, () -> x.sign(0, -1));
    }

    // ---- 10, 16

    private void setting() {
        DepotCharge x = new DepotCharge();
        for (int what = 0; what <= 5; what++) {
            x.set(what, 7 + what);
        }
        for (int what = 0; what <= 5; what++) {
            same("10: setting " + what, 7 + what, x.setting(what));
        }
        fails("10: below", ARGUMENT, () -> x.setting(-1));
        fails("10: above", ARGUMENT, () -> x.setting(6));
    }

    private void set() {
        int[] first = {60, 5, 2, 100, 20, 22};
        int[] least = {0, 0, 0, 0, 1, 0};
        int[] most = {250, 99, 99, 999, 99, 23};
        DepotCharge x = new DepotCharge();
        for (int i = 0; i <= 5; i++) {
            int what = i;
            same("16: previous " + what, first[what], x.set(what, least[what]));
            same("16: previous least " + what, least[what], x.set(what, most[what]));
            fails("16: below " + what, ARGUMENT, () -> x.set(what, least[what] - 1));
            fails("16: above " + what, ARGUMENT, () -> x.set(what, most[what] + 1));
            same("16: is " + what, most[what], x.setting(what));
        }
        fails("16: what below", ARGUMENT, () -> x.set(-1, 1));
        fails("16: what above", ARGUMENT, () -> x.set(6, 1));
        same("16: what is refused is no action", 11, x.undo());
    }

    // ---- 11, 12

    private void addBus() {
        DepotCharge x = new DepotCharge();
        fails("11: size below", ARGUMENT, () -> x.addBus(9, 0, 1, 0, 1));
        fails("11: size above", ARGUMENT, () -> x.addBus(401, 0, 1, 0, 1));
        fails("11: charge below", ARGUMENT, () -> x.addBus(10, -1, 1, 0, 1));
        fails("11: charge above", ARGUMENT, () -> x.addBus(10, 11, 1, 0, 1));
        fails("11: need below", ARGUMENT, () -> x.addBus(10, 0, 0, 0, 1));
        fails("11: need above", ARGUMENT, () -> x.addBus(10, 0, 401, 0, 1));
        fails("11: leaves below", ARGUMENT, () -> x.addBus(10, 0, 1, -1, 1));
        fails("11: leaves above", ARGUMENT, () -> x.addBus(10, 0, 1, 24, 1));
        fails("11: back below", ARGUMENT, () -> x.addBus(10, 0, 1, 0, -1));
        fails("11: back above", ARGUMENT, () -> x.addBus(10, 0, 1, 0, 24));
        fails("11: the same hour", ARGUMENT, () -> x.addBus(10, 0, 1, 5, 5));
        same("11: none is there", 0, x.about(0));
        fails("11: none was an action", STATE, () -> x.undo());
        same("11: the least", 0, x.addBus(10, 0, 1, 0, 23));
        same("11: the greatest", 1, x.addBus(400, 400, 400, 23, 0));
        for (int b = 2; b < 8; b++) {
            same("11: number", b, x.addBus(10 + b, b, 30 + b, b, b + 1));
        }
        same("11: in the depot", 0, x.bus(7, 6));
        same("11: without wear", 0, x.bus(7, 5));
        same("11: size", 17, x.bus(7, 0));
        same("11: charge", 7, x.bus(7, 1));
        same("11: need", 37, x.bus(7, 2));
        same("11: leaves", 7, x.bus(7, 3));
        same("11: back", 8, x.bus(7, 4));
        fails("11: eight", STATE, () -> x.addBus(10, 0, 1, 0, 1));
        fails("11: eight, and out of range", ARGUMENT, () -> x.addBus(10, 0, 1, 1, 1));
        same("11: still eight", 8, x.about(0));
        newBusAtAnOldPlace();
    }

    /** A bus that takes the place of one that is undone has nothing of it. */
    private void newBusAtAnOldPlace() {
        DepotCharge x = new DepotCharge();
        x.addBus(50, 50, 50, 0, 9);
        x.run(1);
        same("11: out", 1, x.bus(0, 6));
        x.save(0);
        x.undo();
        x.undo();
        x.addBus(60, 5, 6, 7, 8);
        same("11: not out", 0, x.bus(0, 6));
        same("11: no wear", 0, x.bus(0, 5));
        same("11: own charge", 5, x.bus(0, 1));
        same("11: the saved one is as it was", 1, x.restore(0));
        same("11: out again", 1, x.bus(0, 6));
        same("11: worn again", 3, x.bus(0, 5));
    }

    private void addCharger() {
        DepotCharge x = new DepotCharge();
        fails("12: below", ARGUMENT, () -> x.addCharger(0));
        fails("12: above", ARGUMENT, () -> x.addCharger(51));
        fails("12: no action", STATE, () -> x.undo());
        same("12: the least", 0, x.addCharger(1));
        same("12: the greatest", 1, x.addCharger(50));
        same("12: number 2", 2, x.addCharger(7));
        same("12: number 3", 3, x.addCharger(8));
        same("12: number 4", 4, x.addCharger(50));
        fails("12: five", STATE, () -> x.addCharger(7));
        fails("12: five, and out of range", ARGUMENT, () -> x.addCharger(51));
        int[] places = {4, 0, 3, 2, 1};
        for (int c = 0; c < 5; c++) {
            same("12: place " + c, places[c], x.charger(c, 1));
        }
        x.undo();
        x.undo();
        same("12: place with three", 2, x.charger(0, 1));
        same("12: a number again", 3, x.addCharger(50));
        same("12: its place", 1, x.charger(3, 1));
    }

    // ---- 13, 14

    private void route() {
        DepotCharge x = new DepotCharge();
        x.addBus(100, 50, 20, 1, 5);
        same("13: previous need", 20, x.route(0, 400, 23, 0));
        same("13: previous need again", 400, x.route(0, 1, 0, 23));
        same("13: need", 1, x.bus(0, 2));
        same("13: leaves", 0, x.bus(0, 3));
        same("13: back", 23, x.bus(0, 4));
        same("13: the charge is as it was", 50, x.bus(0, 1));
        fails("13: bus below", INDEX, () -> x.route(-1, 1, 0, 1));
        fails("13: bus above", INDEX, () -> x.route(1, 1, 0, 1));
        fails("13: bus and need wrong", INDEX, () -> x.route(1, 0, 0, 1));
        fails("13: need below", ARGUMENT, () -> x.route(0, 0, 0, 1));
        fails("13: need above", ARGUMENT, () -> x.route(0, 401, 0, 1));
        fails("13: leaves below", ARGUMENT, () -> x.route(0, 1, -1, 1));
        fails("13: leaves above", ARGUMENT, () -> x.route(0, 1, 24, 1));
        fails("13: back below", ARGUMENT, () -> x.route(0, 1, 0, -1));
        fails("13: back above", ARGUMENT, () -> x.route(0, 1, 0, 24));
        fails("13: the same hour", ARGUMENT, () -> x.route(0, 1, 7, 7));
        x.run(1);
        fails("13: out", STATE, () -> x.route(0, 1, 0, 1));
        fails("13: out, and the same hour", ARGUMENT, () -> x.route(0, 1, 1, 1));
        same("13: need is as it was", 1, x.bus(0, 2));
        same("13: what is refused is no action", 3, x.undo());
    }

    private void battery() {
        DepotCharge x = new DepotCharge();
        x.addBus(100, 50, 20, 0, 1);
        x.run(2);
        same("14: worn", 1, x.bus(0, 5));
        same("14: previous size", 100, x.battery(0, 10));
        same("14: size", 10, x.bus(0, 0));
        same("14: charge", 0, x.bus(0, 1));
        same("14: wear", 0, x.bus(0, 5));
        same("14: need", 20, x.bus(0, 2));
        same("14: previous size again", 10, x.battery(0, 400));
        fails("14: bus below", INDEX, () -> x.battery(-1, 100));
        fails("14: bus above", INDEX, () -> x.battery(1, 100));
        fails("14: both wrong", INDEX, () -> x.battery(1, 9));
        fails("14: size below", ARGUMENT, () -> x.battery(0, 9));
        fails("14: size above", ARGUMENT, () -> x.battery(0, 401));
        x.undo();
        x.undo();
        same("14: undone", 30, x.bus(0, 1));
        x.route(0, 30, 2, 3);
        x.run(1);
        fails("14: out", STATE, () -> x.battery(0, 100));
        fails("14: out, and size wrong", ARGUMENT, () -> x.battery(0, 401));
        same("14: size is as it was", 100, x.bus(0, 0));
    }

    // ---- 15

    private void run() {
        DepotCharge x = new DepotCharge();
        x.addBus(100, 0, 30, 6, 9);
        x.addCharger(10);
        // By night until 5, all of them; the bus leaves at 6 with 60.
        same("15: one hour", 10, x.run(1));
        same("15: five hours", 50, x.run(5));
        same("15: charge", 60, x.bus(0, 1));
        same("15: paid", 120, x.about(3));
        same("15: away", 0, x.run(3));
        same("15: gone", 1, x.about(6));
        same("15: charge behind the route", 30, x.bus(0, 1));
        // Back at 9 with 30: not in want, and by day nothing more.
        same("15: not by day", 0, x.run(13));
        same("15: by night", 20, x.run(2));
        same("15: full", 50, x.run(6));
        same("15: full at midnight and later", 100, x.bus(0, 1));
        same("15: 48 hours", 60, x.run(48));
        same("15: hour", 78, x.about(2));
        fails("15: below", ARGUMENT, () -> x.run(0));
        fails("15: negative", ARGUMENT, () -> x.run(-1));
        fails("15: above", ARGUMENT, () -> x.run(49));
        same("15: the refused are none", 78, x.about(2));
        missedRoutes();
        outUntilItComesBack();
    }

    private void outUntilItComesBack() {
        // By night it is charged up to 100. It leaves in the hour 22, and comes back in the hour 27, behind midnight.
        DepotCharge x = Depots.loaded("set,5,12;bus,100,90,30,22,3;plug,10;run,22");
        same("15: not yet out", 0, x.bus(0, 6));
        for (int hour = 23; hour <= 27; hour++) {
            x.run(1);
            same("15: out when it is " + hour, 1, x.bus(0, 6));
            same("15: its charge when it is " + hour, 70, x.bus(0, 1));
        }
        x.run(1);
        same("15: back", 0, x.bus(0, 6));
        same("15: gone once", 1, x.about(6));
    }

    private void missedRoutes() {
        DepotCharge x = new DepotCharge();
        x.addBus(100, 29, 30, 0, 9);
        x.addBus(50, 50, 60, 0, 9);
        x.set(3, 7);
        same("15: nothing to charge with", 0, x.run(1));
        same("15: missed", 2, x.about(5));
        same("15: paid for missed ones", 14, x.about(3));
        same("15: stays", 0, x.bus(0, 6));
        same("15: keeps its charge", 29, x.bus(0, 1));
        same("15: no wear", 0, x.bus(0, 5));
        x.run(24);
        same("15: missed on the next day too", 4, x.about(5));
        same("15: none gone", 0, x.about(6));
    }

    /** Five chargers, and more buses than these: in want first, by hours, by what they lack, by number. */
    private void lineForTheChargers() {
        DepotCharge x = new DepotCharge();
        x.set(5, 12);
        x.set(0, 75);
        x.addBus(100, 50, 60, 5, 6);
        x.addBus(100, 20, 60, 5, 6);
        x.addBus(100, 10, 20, 3, 6);
        x.addBus(100, 50, 60, 5, 6);
        x.addBus(100, 0, 10, 0, 6);
        x.addBus(100, 70, 60, 1, 6);
        int[] powers = {10, 30, 30, 20, 5};
        for (int power : powers) {
            x.addCharger(power);
        }
        int[] at = {3, 2, 1, 0, 4, -1};
        int[] units = {15, 30, 30, 0, 0, 0};
        for (int b = 0; b < 6; b++) {
            same("15: by day, charger of " + b, at[b], x.bus(b, 8));
            same("15: by day, units of " + b, units[b], x.bus(b, 7));
        }
        x.set(5, 0);
        for (int b = 0; b < 6; b++) {
            same("15: by night, charger of " + b, at[b], x.bus(b, 8));
        }
        x.set(5, 12);
        same("15: charged by day", 75, x.run(1));
        same("15: paid by day, with one missed", 475, x.about(3));
        x.undo();
        x.set(5, 0);
        same("15: charged by night", 75, x.run(1));
        same("15: paid by night, with one missed", 250, x.about(3));
        othersByTheirNumbers();
    }

    private void othersByTheirNumbers() {
        DepotCharge x = new DepotCharge();
        x.addBus(100, 90, 10, 1, 6);
        x.addBus(100, 10, 10, 2, 6);
        x.addBus(100, 20, 30, 23, 6);
        x.addCharger(10);
        x.addCharger(11);
        x.addCharger(12);
        same("15: in want goes ahead", 2, x.bus(2, 8));
        same("15: then the lowest number", 1, x.bus(0, 8));
        same("15: then the next", 0, x.bus(1, 8));
        same("15: not more than is lacking up to the size", 10, x.bus(0, 7));
        same("15: up to the size, not to the need", 12, x.bus(2, 7));
        DepotCharge y = new DepotCharge();
        y.addBus(400, 0, 400, 6, 7);
        y.addBus(400, 0, 1, 5, 7);
        y.addCharger(50);
        same("15: the hours count more than any lack", 0, y.bus(1, 8));
        same("15: who lacks most comes later", -1, y.bus(0, 8));
        y.route(0, 400, 5, 7);
        same("15: of the same hours the lack counts", 0, y.bus(0, 8));
        for (int lack = 1; lack <= 400; lack++) {
            DepotCharge z = new DepotCharge();
            z.addBus(400, 0, lack, 1, 7);
            z.addCharger(50);
            same("15: in want for the next hour, lacking " + lack, 0, z.bus(0, 8));
        }
        DepotCharge last = new DepotCharge();
        last.addBus(400, 399, 1, 1, 7);
        last.addBus(400, 399, 400, 0, 7);
        last.addCharger(50);
        same("15: in want, though not before tomorrow, goes ahead of the others", 0, last.bus(1, 8));
    }

    /** As many buses and chargers as there can be. */
    private void fullDepot() {
        DepotCharge x = new DepotCharge();
        x.set(5, 12);
        x.set(0, 250);
        for (int b = 0; b < 8; b++) {
            x.addBus(100, 10 * b, 100, 23 - b, 0);
        }
        for (int c = 0; c < 5; c++) {
            x.addCharger(10 + c);
        }
        same("15: all low", 8, x.about(8));
        same("15: together", 280, x.about(10));
        for (int b = 0; b < 8; b++) {
            // The last bus leaves first, and is at the strongest charger, the last one.
            same("15: charger of " + b, b < 3 ? -1 : b - 3, x.bus(b, 8));
            same("15: units of " + b, b < 3 ? 0 : 7 + b, x.bus(b, 7));
        }
        for (int c = 0; c < 5; c++) {
            same("15: bus at " + c, c + 3, x.charger(c, 2));
        }
        same("15: all chargers", 60, x.run(1));
        same("15: together then", 340, x.about(10));
        String before = Depots.stateOf(x);
        x.run(48);
        x.undo();
        checks.same("15: a full depot undone", before, Depots.stateOf(x));
    }

    private void night() {
        for (int start = 0; start < 24; start++) {
            DepotCharge x = new DepotCharge();
            x.set(5, start);
            for (int hour = 0; hour < 48; hour++) {
                int day = hour % 24;
                boolean due = day >= start && day < start + 8 || day + 24 < start + 8;
                same("15: night from " + start + " at " + hour, due ? 1 : 0, x.about(9));
                x.run(1);
            }
        }
    }

    // ---- wear, of 15

    private int wearOf(int size, int need) {
        DepotCharge x = new DepotCharge();
        x.addBus(size, size, need, 0, 1);
        x.run(1);
        return x.bus(0, 5);
    }

    private void wear() {
        same("15: wear at 80", 3, wearOf(100, 80));
        same("15: wear at 79", 2, wearOf(100, 79));
        same("15: wear at 50", 2, wearOf(100, 50));
        same("15: wear at 49", 1, wearOf(100, 49));
        same("15: wear at 4 of 5", 3, wearOf(15, 12));
        same("15: wear above a half", 2, wearOf(15, 8));
        same("15: wear below a half", 1, wearOf(15, 7));
        same("15: wear at all", 3, wearOf(400, 400));
        DepotCharge x = new DepotCharge();
        x.addBus(100, 100, 80, 0, 1);
        x.addCharger(50);
        x.set(0, 250);
        x.set(4, 7);
        // 3, 6, then 9 of which 7 go and the size becomes 99.
        x.run(48);
        same("15: wear of two days", 6, x.bus(0, 5));
        same("15: size of two days", 100, x.bus(0, 0));
        x.run(1);
        same("15: wear of three days", 2, x.bus(0, 5));
        same("15: size of three days", 99, x.bus(0, 0));
        x.undo();
        x.set(4, 9);
        x.run(1);
        same("15: at the setting", 0, x.bus(0, 5));
        same("15: smaller at the setting", 99, x.bus(0, 0));
        x.undo();
        x.set(4, 10);
        x.run(1);
        same("15: below the setting", 9, x.bus(0, 5));
        same("15: not smaller below the setting", 100, x.bus(0, 0));
        x.undo();
        x.set(4, 1);
        x.run(1);
        same("15: less by the setting once", 8, x.bus(0, 5));
        same("15: smaller once", 99, x.bus(0, 0));
        same("15: the charge of a smaller battery stays", 20, x.bus(0, 1));
        same("15: wear just below 80 of 100", 2, wearOf(400, 319));
        same("15: wear just below 50 of 100", 1, wearOf(400, 199));
        DepotCharge small = Depots.loaded("set,4,1;bus,10,10,3,0,1;run,1");
        same("15: not less than 10", 10, small.bus(0, 0));
        same("15: the wear is less all the same", 0, small.bus(0, 5));
    }

    // ---- 17

    private void undo() {
        DepotCharge x = new DepotCharge();
        x.addBus(50, 40, 20, 1, 2);
        x.addCharger(7);
        String before = Depots.stateOf(x);
        x.run(48);
        same("17: two more are remembered", 2, x.undo());
        checks.same("17: as before", before, Depots.stateOf(x));
        same("17: one", 1, x.undo());
        same("17: no charger", 0, x.about(1));
        same("17: none", 0, x.undo());
        same("17: no bus", 0, x.about(0));
        fails("17: nothing to undo", STATE, () -> x.undo());
        x.set(0, 60);
        same("17: an action that changes nothing", 0, x.undo());
        Depots.type(x, "run");
        x.set(0, 9);
        Depots.type(x, ",1");
        x.save(0);
        same("17: undo keeps text and slots", 0, x.undo());
        same("17: the text is kept", -1, x.errorPosition());
        same("17: limit before", 60, x.setting(0));
        same("17: the slot is kept", 0, x.restore(0));
        same("17: limit in the slot", 9, x.setting(0));
    }

    private void undoRemembersFourteen() {
        DepotCharge x = new DepotCharge();
        for (int i = 1; i <= 20; i++) {
            x.set(0, i);
        }
        for (int left = 13; left >= 0; left--) {
            same("17: left", left, x.undo());
            same("17: limit", left + 6, x.setting(0));
        }
        fails("17: the fifteenth", STATE, () -> x.undo());
        same("17: the oldest ones are forgotten", 6, x.setting(0));
    }

    private void everyActionCanBeUndone() {
        DepotCharge x = new DepotCharge();
        x.addBus(50, 40, 20, 1, 2);
        String before = Depots.stateOf(x);
        x.route(0, 30, 5, 6);
        x.battery(0, 60);
        x.addBus(50, 40, 20, 1, 2);
        x.addCharger(5);
        x.set(5, 3);
        x.run(5);
        for (int left = 6; left >= 1; left--) {
            same("17: still remembered", left, x.undo());
        }
        checks.same("17: all undone", before, Depots.stateOf(x));
    }

    // ---- 18, 19

    private void coming() {
        DepotCharge x = new DepotCharge();
        x.addBus(100, 0, 30, 6, 9);
        x.addBus(50, 0, 51, 0, 9);
        x.addCharger(10);
        x.run(1);
        // The bus 0 leaves first: 5 hours more by night bring it 50; it is out from 6 to 8. The bus 1 never leaves.
        same("18: units in one hour", 10, x.coming(1, 1));
        same("18: paid in one hour", 20, x.coming(1, 0));
        same("18: units in five hours", 50, x.coming(5, 1));
        same("18: gone in five hours", 0, x.coming(5, 3));
        same("18: gone in six hours", 1, x.coming(6, 3));
        same("18: missed in 23 hours", 0, x.coming(23, 2));
        same("18: missed in 24 hours", 1, x.coming(24, 2));
        same("18: missed in 72 hours", 3, x.coming(72, 2));
        same("18: missed so far", 1, x.about(5));
        same("18: nothing changes", 1, x.about(2));
        int paid = x.coming(48, 0);
        int units = x.coming(48, 1);
        int before = x.about(3);
        same("18: units as the run", units, x.run(48));
        same("18: paid as the run", paid, x.about(3) - before);
        same("18: gone, without those before", 1, x.coming(24, 3));
        same("18: missed, without those before", 1, x.coming(24, 2));
        fails("18: n below", ARGUMENT, () -> x.coming(0, 0));
        fails("18: n above", ARGUMENT, () -> x.coming(73, 0));
        fails("18: what below", ARGUMENT, () -> x.coming(1, -1));
        fails("18: what above", ARGUMENT, () -> x.coming(1, 4));
        same("18: no action", 4, x.undo());
    }

    private void firstMissed() {
        DepotCharge x = new DepotCharge();
        x.addBus(100, 60, 30, 6, 9);
        x.addBus(100, 100, 30, 6, 9);
        x.addBus(100, 20, 30, 0, 9);
        x.addBus(100, 90, 30, 0, 9);
        same("19: on the third day", 54, x.firstMissed(0));
        same("19: not in three days", -1, x.firstMissed(1));
        same("19: in this hour", 0, x.firstMissed(2));
        same("19: behind the 72 hours", -1, x.firstMissed(3));
        x.run(1);
        same("19: the last one of the 72", 72, x.firstMissed(3));
        same("19: the next day", 24, x.firstMissed(2));
        x.addCharger(50);
        same("19: charged in time", -1, x.firstMissed(0));
        fails("19: bus below", INDEX, () -> x.firstMissed(-1));
        fails("19: bus above", INDEX, () -> x.firstMissed(4));
        same("19: nothing changes", 1, x.about(2));
    }

    // ---- 20, 21, 22

    private void leastLimit() {
        DepotCharge x = new DepotCharge();
        same("20: without buses", 0, x.leastLimit(72));
        x.addBus(100, 0, 60, 4, 9);
        x.addBus(100, 0, 60, 4, 9);
        x.addCharger(30);
        x.addCharger(30);
        // Four hours for 120 units.
        same("20: four hours would do", 0, x.leastLimit(4));
        same("20: thirty an hour", 30, x.leastLimit(5));
        x.route(1, 61, 4, 9);
        same("20: one more unit", 40, x.leastLimit(5));
        same("20: one hour", 0, x.leastLimit(1));
        x.set(0, 0);
        same("20: the present limit does not count", 40, x.leastLimit(5));
        same("20: and stays", 0, x.setting(0));
        x.route(0, 101, 4, 9);
        same("20: none would do", -1, x.leastLimit(5));
        DepotCharge most = new DepotCharge();
        for (int i = 0; i < 5; i++) {
            most.addBus(50, 0, 50, 1, 9);
            most.addCharger(50);
        }
        same("20: the greatest", 250, most.leastLimit(2));
        most.route(0, 49, 1, 9);
        same("20: no limit between tens", 250, most.leastLimit(2));
        most.route(0, 40, 1, 9);
        same("20: the last one may get less", 240, most.leastLimit(2));
        fails("20: below", ARGUMENT, () -> x.leastLimit(0));
        fails("20: above", ARGUMENT, () -> x.leastLimit(73));
    }

    private void bestNight() {
        DepotCharge x = new DepotCharge();
        same("21: nothing is paid", 0, x.bestNight(72));
        x.run(10);
        x.addBus(100, 0, 30, 8, 9);
        x.addCharger(10);
        // At 10, 11 and 12 it is in want and charged in any case: the night that has all three begins at 5 at the
        // earliest and at 10 at the latest; but by night more is charged, up to the size, until the night ends.
        same("21: paid without a night", 150, paidWith(x, 14, 3));
        same("21: paid with it", 60, paidWith(x, 5, 3));
        same("21: the lowest of several", 5, x.bestNight(3));
        same("21: in one hour", 3, x.bestNight(1));
        // In 72 hours the least is paid if no more than the need is charged by night, or all of it cheaply.
        int best = x.bestNight(72);
        for (int start = 0; start < 24; start++) {
            int paid = paidWith(x, start, 72);
            int least = paidWith(x, best, 72);
            same("21: none is cheaper, " + start, 1, least < paid || least == paid && best <= start ? 1 : 0);
        }
        same("21: the night stays", 22, x.setting(5));
        x.set(1, 0);
        same("21: free by day", 0, x.bestNight(3));
        fails("21: below", ARGUMENT, () -> x.bestNight(0));
        fails("21: above", ARGUMENT, () -> x.bestNight(73));
        same("21: at 20 to 22, all three by night", 15, wanting(20).bestNight(3));
        same("21: at 4 to 6, all three by night", 0, wanting(4).bestNight(3));
        DepotCharge free = wanting(4);
        free.set(1, 0);
        same("21: at 4 to 6, none by night", 7, free.bestNight(3));
    }

    private void bestNightIsTheLowest() {
        // All of the night counts: the hours 0 to 7 are the cheapest from 0 on, the hours 1 to 8 from 1 on.
        DepotCharge x = Depots.loaded("bus,100,0,80,23,22;plug,10");
        same("21: from 0 on", 0, x.bestNight(8));
        x.run(1);
        x.battery(0, 100);
        same("21: from 1 on", 1, x.bestNight(8));
        same("21: the same, told once more", 1, x.bestNight(8));
        x.run(22);
        x.battery(0, 100);
        x.route(0, 80, 22, 21);
        same("21: from 23 on", 23, x.bestNight(8));
    }

    /** A depot at an hour, with a bus that is in want for three hours. */
    private static DepotCharge wanting(int hour) {
        DepotCharge x = new DepotCharge();
        x.run(hour);
        x.addBus(100, 0, 30, 12, 13);
        x.addCharger(10);
        return x;
    }

    private static int paidWith(DepotCharge x, int start, int n) {
        x.set(5, start);
        int paid = x.coming(n, 0);
        x.undo();
        return paid;
    }

    private void ifPlugged() {
        DepotCharge x = new DepotCharge();
        x.addBus(100, 0, 90, 4, 9);
        x.addBus(100, 0, 90, 4, 9);
        x.addCharger(30);
        // With 15 more each of the two gets 30 twice and 15 twice, by turns.
        same("22: as it is", 2, x.coming(5, 2));
        same("22: too weak", 2, x.ifPlugged(14, 5));
        same("22: strong enough", 0, x.ifPlugged(15, 5));
        same("22: no charger was added", 1, x.about(1));
        same("22: no action", 2, x.undo());
        for (int c = 0; c < 4; c++) {
            same("22: there is room", x.about(5), x.ifPlugged(1, 4));
            x.addCharger(1);
        }
        same("22: four", 4, x.about(1));
        x.addCharger(1);
        fails("22: five", STATE, () -> x.ifPlugged(15, 5));
        fails("22: five, and power wrong", ARGUMENT, () -> x.ifPlugged(51, 5));
        fails("22: five, and n wrong", ARGUMENT, () -> x.ifPlugged(15, 73));
        x.undo();
        same("22: one hour", 0, x.ifPlugged(15, 1));
        x.run(48);
        int missed = x.about(5);
        same("22: missed before", 4, missed);
        same("22: without those before", 0, x.ifPlugged(15, 1));
        fails("22: power below", ARGUMENT, () -> x.ifPlugged(0, 5));
        fails("22: power above", ARGUMENT, () -> x.ifPlugged(51, 5));
        fails("22: n below", ARGUMENT, () -> x.ifPlugged(15, 0));
        fails("22: n above", ARGUMENT, () -> x.ifPlugged(15, 73));
    }

    // ---- 23

    private static DepotCharge forScripts() {
        DepotCharge x = new DepotCharge();
        x.addBus(100, 60, 20, 1, 5);
        x.addBus(100, 0, 20, 1, 5);
        x.addCharger(10);
        return x;
    }

    private void script(int n, long script, int due) {
        DepotCharge x = forScripts();
        String before = Depots.stateOf(x);
        same("23: script " + script + " of " + n, due, x.runScript(n, script));
        checks.same("23: nothing changes behind " + script, before, Depots.stateOf(x));
        same("23: no action behind " + script, 2, x.undo());
    }

    private void scriptsDo() {
        script(1, 10001, -1);
        script(1, 10048, -1);
        script(1, 10000, 0);
        script(1, 10049, 0);
        script(1, 10101, 0);
        script(1, 11001, 0);
        script(1, 20010, -1);
        script(1, 20400, -1);
        script(1, 20401, 0);
        script(1, 20009, 0);
        script(1, 21100, -1);
        script(1, 22100, 0);
        script(1, 30250, -1);
        script(1, 30251, 0);
        script(1, 33999, -1);
        script(1, 34000, 0);
        script(1, 34001, -1);
        script(1, 35023, -1);
        script(1, 35024, 0);
        script(1, 36001, 0);
        script(1, 40001, -1);
        script(1, 40050, -1);
        script(1, 40051, 0);
        script(1, 40000, 0);
        script(1, 40101, 0);
        script(1, 41001, 0);
        script(1, 0, 0);
        script(1, 1, 0);
        // A battery can't be put into a bus that is out; it can once the bus is back.
        script(2, 1000220100L, 1);
        script(2, 1000620100L, -1);
        script(3, 400014000140001L, -1);
        DepotCharge four = forScripts();
        four.addCharger(10);
        four.addCharger(10);
        same("23: room for two more", 2, four.runScript(3, 400014000140001L));
        four.addCharger(10);
        same("23: room for one, which comes once", -1, four.runScript(1, 40001));
        four.addCharger(10);
        same("23: no room", 0, four.runScript(1, 40001));
    }

    private void scriptsAsk() {
        script(1, 50060, -1);
        script(1, 50061, 0);
        script(1, 51000, -1);
        script(1, 51001, 0);
        script(1, 52000, 0);
        script(1, 60000, 0);
        script(2, 1000260000L, -1);
        script(2, 1000261000L, 1);
        script(2, 1000260001L, 1);
        script(2, 1000260100L, 1);
        script(1, 62000, 0);
        script(1, 70000, -1);
        script(2, 1000270000L, 1);
        script(2, 1000270001L, -1);
        script(2, 1000270101L, 1);
        script(2, 1000270100L, 1);
        script(2, 1000270099L, -1);
        script(2, 1000271001L, 1);
        // In hour 0 the bus 1 alone is in want; in hour 1 it misses its route, and the bus 0 leaves.
        script(1, 81000, -1);
        script(1, 80000, 0);
        script(1, 81100, 0);
        script(1, 81001, 0);
        script(1, 81010, 0);
        script(1, 82000, 0);
        script(2, 3000081000L, -1);
        script(2, 4005081100L, -1);
        script(2, 4005081000L, 1);
        script(2, 4005080000L, -1);
        script(1, 90000, -1);
        script(1, 90001, 0);
        script(2, 1000290001L, -1);
        script(2, 1000290002L, 1);
        script(2, 1000290101L, 1);
        DepotCharge old = Depots.loaded("bus,400,400,1,0,1;bus,400,400,1,0,1;bus,400,400,1,0,1;plug,50;set,0,250");
        for (int day = 0; day < 50; day++) {
            old.run(24);
        }
        same("23: 150 are gone", 150, old.about(6));
        same("23: at least 99", -1, old.runScript(1, 90099));
        same("23: no group for 100", 0, old.runScript(1, 90100));
        script(2, 1000291001L, 1);
        script(3, 100029000160000L, -1);
        script(3, 100016000060000L, 1);
        script(3, 100011000110000L, 2);
        script(3, 100010000110000L, 1);
        script(3, 50061, 0);
        script(2, 10001, 0);
        script(2, 1000000001L + 1, 0);
    }

    private void scriptsAreRefused() {
        DepotCharge x = forScripts();
        fails("23: n below", ARGUMENT, () -> x.runScript(0, 0));
        fails("23: n above", ARGUMENT, () -> x.runScript(4, 10001));
        fails("23: negative", ARGUMENT, () -> x.runScript(1, -1));
        fails("23: far below", ARGUMENT, () -> x.runScript(3, Long.MIN_VALUE));
        fails("23: six digits", ARGUMENT, () -> x.runScript(1, 100000));
        same("23: five digits", 0, x.runScript(1, 99999));
        fails("23: eleven digits", ARGUMENT, () -> x.runScript(2, 10000000000L));
        same("23: ten digits", 0, x.runScript(2, 9999999999L));
        fails("23: sixteen digits", ARGUMENT, () -> x.runScript(3, 1000000000000000L));
        same("23: fifteen digits", 0, x.runScript(3, 999999999999999L));
        fails("23: far above", ARGUMENT, () -> x.runScript(3, Long.MAX_VALUE));
    }

    // ---- 24

    private void simulate() {
        DepotCharge x = forScripts();
        same("24: without buses nothing is missed or gone", 0, new DepotCharge().simulate(1, 30));
        long[] seeds = {0, 1, -1, 42, Long.MAX_VALUE, Long.MIN_VALUE, 123456789012345L};
        for (long seed : seeds) {
            for (int m = 1; m <= 30; m++) {
                simulateAsPlayed(seed, m);
            }
        }
        for (int i = 0; i < 300; i++) {
            simulateAsPlayed(1000003L * i * i * i, 30);
        }
        String before = Depots.stateOf(x);
        x.simulate(7, 30);
        checks.same("24: nothing changes", before, Depots.stateOf(x));
        fails("24: below", ARGUMENT, () -> x.simulate(1, 0));
        fails("24: above", ARGUMENT, () -> x.simulate(1, 31));
        same("24: no action", 2, x.undo());
    }

    /** The turns as calls of a depot of its own, in which routes were missed and gone before. */
    private void simulateAsPlayed(long seed, int m) {
        DepotCharge x = Depots.loaded(
            "bus,100,60,20,1,5;bus,90,0,20,1,5;bus,80,80,70,3,1;bus,60,0,2,7,9;plug,10;run,9");
        int told = x.simulate(seed, m);
        int missed = x.about(5);
        int gone = x.about(6);
        Depots.play(x, seed, m);
        same("24: seed " + seed + ", " + m, 1000 * (x.about(5) - missed) + x.about(6) - gone, told);
    }

    // ---- 25, 26

    private void saveAndRestore() {
        DepotCharge x = new DepotCharge();
        x.addBus(50, 40, 20, 1, 2);
        x.run(3);
        same("25: the hour of now", 3, x.save(1));
        String saved = Depots.stateOf(x);
        fails("26: nothing in the other", STATE, () -> x.restore(0));
        x.run(30);
        x.addCharger(9);
        same("25: the other slot", 33, x.save(0));
        same("25: save is no action", 3, x.undo());
        same("26: the hour then", 3, x.restore(1));
        checks.same("26: the state then", saved, Depots.stateOf(x));
        fails("26: forgets what was remembered", STATE, () -> x.undo());
        x.run(5);
        same("26: an action behind it is remembered", 0, x.undo());
        x.battery(0, 99);
        same("26: the slot keeps it", 3, x.restore(1));
        checks.same("26: the state once more", saved, Depots.stateOf(x));
        same("26: the other one", 33, x.restore(0));
        same("26: its charger", 1, x.about(1));
        same("25: anew", 33, x.save(1));
        same("26: what was saved last", 33, x.restore(1));
        fails("25: slot below", INDEX, () -> x.save(-1));
        fails("25: slot above", INDEX, () -> x.save(2));
        fails("26: slot below", INDEX, () -> x.restore(-1));
        fails("26: slot above", INDEX, () -> x.restore(2));
        fails("26: slot far above", INDEX, () -> x.restore(Integer.MAX_VALUE));
        x.set(0, 1);
        same("25: save keeps what is remembered", 33, x.save(0));
        same("25: undo behind save", 0, x.undo());
    }

    /** What only tells changes nothing: not the state, the text, the slots or the states remembered. */
    private void nothingElseChanges() {
        DepotCharge x = Depots.loaded("bus,100,20,60,6,18;bus,100,90,60,1,9;plug,10;set,0,40");
        x.set(0, 50);
        x.save(0);
        x.set(0, 55);
        String before = Depots.stateOf(x);
        x.coming(72, 0);
        x.firstMissed(0);
        x.leastLimit(72);
        x.bestNight(72);
        x.ifPlugged(50, 72);
        x.runScript(3, 100052010030100L);
        x.simulate(5, 30);
        x.errorPosition();
        checks.same("18 to 24: nothing changes", before, Depots.stateOf(x));
        same("18 to 24: the states remembered", 1, x.undo());
        same("18 to 24: the slot", 0, x.restore(0));
        same("18 to 24: the state in the slot", 50, x.setting(0));
        same("18 to 24: the text", -1, x.errorPosition());
    }
}
