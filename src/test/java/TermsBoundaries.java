/** The boundary cases of "What it is" and of the Terms, but for those of the hour and of the text. */
final class TermsBoundaries extends Boundaries {
    private static final String TERMS = "Terms";

    TermsBoundaries(Checks checks, Document document) {
        super(checks, document);
    }

    @Override
    void runAll() {
        whatTellsNothingOfItsOwn();
        fiveHundredAndTwelveCalls();
        hourOfTheDay();
        nowAtFirst();

        eightBuses();
        sizeOfABus();
        chargeOfABus();
        needOfABus();
        hoursOfABus();
        wearAtFirst();
        inTheDepotAtFirst();
        fiveChargers();
        orderOfChargers();

        hoursOfTheNight();
        settings();
        sign();
        wordOfASign();
        markOfASign();

        stateWithoutTextAndSlots();
        actionsThatChangeNothing();
        stateBeforeAnAction();
        fourteenStates();
        noActions();

        whatDoesNotExist();
        argumentsOutOfRange();
        whatTheMethodSays();
        namedFirst();
        exceptionsChangeNothing();
        none();
        callsThatChangeNothing();
    }

    private void whatTellsNothingOfItsOwn() {
        asksNothing("What it is", "A depot of electric buses: buses with batteries, and routes that leave and come back"
            + " at their hours, chargers by power, a limit of the whole site, who is charged first, prices by day and"
            + " by night, batteries that wear by the depth to which they are used, routes that are missed.");
        asksNothing(TERMS, "It tells who is charged with how much now, what the hours to come cost and miss, which"
            + " limit would do, what stands on the sign of a bus. Changes can be undone.");
        String[] titles = {"TIME", "BUSES", "CHARGERS", "PRICES", "SIGNS", "ACTIONS AND UNDO", "EXCEPTIONS"};
        for (String title : titles) {
            asksNothing(TERMS, title);
        }
        asksNothing(TERMS, "Ahead of the calls append, clearText, errorPosition, load the interface says: ---- text.");
        asksNothing(TERMS, "Ahead of the calls about, bus, charger, sign, setting the interface says:"
            + " ---- what there is.");
        asksNothing(TERMS, "Ahead of the calls addBus, addCharger, route, battery, run, set, undo the interface says:"
            + " ---- actions.");
        asksNothing(TERMS, "Ahead of the calls runScript, simulate the interface says: ---- scripts, simulations.");
        asksNothing(TERMS, "Ahead of the calls save, restore the interface says: ---- save slots.");
    }

    private void fiveHundredAndTwelveCalls() {
        says("What it is", "An object is used for at most 512 calls after it has been made;"
            + " what later calls answer is free.");
        due("the hour, as the 512th call", 24096, longUsed().about(2));
        // In each of the 1004 days eight routes are missed, at 999 each.
        due("what was paid, as the 512th call", 8023968, longUsed().about(3));
        due("the routes missed, as the 512th call", 8032, longUsed().about(5));
        due("a run, as the 512th call", 0, longUsed().run(48));
        due("undo, as the 512th call", 13, longUsed().undo());
    }

    /** A depot after 511 calls: 1004 days in which all is missed that can be. */
    private static DepotCharge longUsed() {
        DepotCharge x = new DepotCharge();
        x.set(3, 999);
        for (int b = 0; b < 8; b++) {
            x.addBus(10, 10, 400, b, b + 1);
        }
        for (int i = 0; i < 502; i++) {
            x.run(48);
        }
        return x;
    }

    // ---- TIME

    private void hourOfTheDay() {
        says(TERMS, "Hours are numbered from 0; the hour of the day is the number modulo 24.");
        DepotCharge x = new DepotCharge();
        due("the first hour", 0, x.about(2));
        x.addBus(10, 10, 1, 0, 12);
        x.addBus(10, 10, 1, 23, 12);
        x.run(23);
        due("the last hour of the first day", 23, x.about(2));
        due("in the hour 23, the hours until 0", 1, x.bus(0, 9));
        due("in the hour 23, the hours until 23", 24, x.bus(1, 9));
        due("in the hour 23, gone", 1, x.about(6));
        x.run(1);
        due("the first hour of the second day", 24, x.about(2));
        due("in the hour 24, the hours until 0", 24, x.bus(0, 9));
        due("in the hour 24, the hours until 23", 23, x.bus(1, 9));
        due("in the hour 24, gone", 2, x.about(6));
        x.run(1);
        due("behind the hour 24, gone", 3, x.about(6));
    }

    private void nowAtFirst() {
        says(TERMS, "Now is the hour 0 at first.");
        due("a new object", 0, new DepotCharge().about(2));
    }

    // ---- BUSES

    private void eightBuses() {
        says(TERMS, "There are at most 8 buses, numbered from 0.");
        DepotCharge x = new DepotCharge();
        for (int b = 0; b < 8; b++) {
            due("bus " + b, b, x.addBus(10 + b, 0, 1, 0, 1));
        }
        due("the first one", 10, x.bus(0, 0));
        due("the last one", 17, x.bus(7, 0));
        refused("a ninth bus", STATE, Depots::withEightBuses, y -> y.addBus(10, 0, 1, 0, 1));
        refused("of eight, bus 8", INDEX, Depots::withEightBuses, y -> y.bus(8, 0));
        refused("bus -1", INDEX, Depots::withEightBuses, y -> y.bus(-1, 0));
    }

    private void sizeOfABus() {
        says(TERMS, "A bus has a size of its battery, 10 to 400 units,");
        within(10, 400, ARGUMENT, Depots::busy, (x, size) -> x.addBus(size, 0, 1, 0, 1));
        within(10, 400, ARGUMENT, Depots::busy, (x, size) -> x.battery(1, size));
        DepotCharge x = new DepotCharge();
        x.addBus(10, 0, 1, 0, 1);
        x.addBus(400, 0, 1, 0, 1);
        due("the least", 10, x.bus(0, 0));
        due("the greatest", 400, x.bus(1, 0));
    }

    private void chargeOfABus() {
        says(TERMS, "a charge, 0 to its size,");
        within(0, 10, ARGUMENT, Depots::busy, (x, charge) -> x.addBus(10, charge, 1, 0, 1));
        within(0, 400, ARGUMENT, Depots::busy, (x, charge) -> x.addBus(400, charge, 1, 0, 1));
        DepotCharge x = new DepotCharge();
        x.addBus(400, 0, 400, 0, 1);
        x.addBus(400, 400, 400, 0, 1);
        due("the least", 0, x.bus(0, 1));
        due("the greatest", 400, x.bus(1, 1));
        x.addCharger(50);
        x.run(24);
        due("charged up to the size", 400, x.bus(0, 1));
        due("used up, and charged up to the size again", 400, x.bus(1, 1));
    }

    private void needOfABus() {
        says(TERMS, "a need, 1 to 400 units, which is what its route uses,");
        within(1, 400, ARGUMENT, Depots::busy, (x, need) -> x.addBus(400, 0, need, 0, 1));
        within(1, 400, ARGUMENT, Depots::busy, (x, need) -> x.route(1, need, 0, 1));
        DepotCharge x = new DepotCharge();
        x.addBus(400, 400, 1, 0, 1);
        x.addBus(400, 400, 400, 0, 1);
        x.run(1);
        due("what a route with 1 uses", 399, x.bus(0, 1));
        due("what a route with 400 uses", 0, x.bus(1, 1));
    }

    private void hoursOfABus() {
        says(TERMS, "an hour of the day at which it leaves, and another one at which it comes back,");
        within(0, 23, ARGUMENT, Depots::busy, (x, leaves) -> x.addBus(10, 0, 1, leaves, 12));
        within(0, 23, ARGUMENT, Depots::busy, (x, back) -> x.addBus(10, 0, 1, 12, back));
        for (int i = 0; i < 24; i++) {
            int hour = i;
            refused("both hours " + hour, ARGUMENT, Depots::busy, y -> y.addBus(10, 0, 1, hour, hour));
        }
        DepotCharge x = new DepotCharge();
        x.addBus(10, 0, 1, 23, 0);
        x.addBus(10, 0, 1, 0, 23);
        due("leaves at 23", 23, x.bus(0, 3));
        due("comes back at 0", 0, x.bus(0, 4));
        due("leaves at 0", 0, x.bus(1, 3));
        due("comes back at 23", 23, x.bus(1, 4));
    }

    private void wearAtFirst() {
        says(TERMS, "and a wear, at first 0.");
        DepotCharge x = Depots.busy();
        int b = x.addBus(50, 50, 50, 0, 1);
        due("a new bus", 0, x.bus(b, 5));
        due("beside a worn one", 2, x.bus(0, 5));
    }

    private void inTheDepotAtFirst() {
        says(TERMS, "It is in the depot or out, at first in the depot.");
        DepotCharge x = Depots.busy();
        int leavesNow = x.addBus(50, 50, 50, 3, 4);
        int leftBefore = x.addBus(50, 50, 50, 2, 4);
        due("one that leaves at this hour", 0, x.bus(leavesNow, 6));
        due("one that would be out, had it been there before", 0, x.bus(leftBefore, 6));
        x.run(1);
        due("the one that left", 1, x.bus(leavesNow, 6));
        due("the one that stays until tomorrow", 0, x.bus(leftBefore, 6));
    }

    // ---- CHARGERS

    private void fiveChargers() {
        says(TERMS, "There are at most 5 chargers, numbered from 0, each with a power, 1 to 50 units in an hour.");
        DepotCharge x = new DepotCharge();
        for (int c = 0; c < 5; c++) {
            due("charger " + c, c, x.addCharger(c == 4 ? 50 : 1 + c));
        }
        due("the first one, with the least power", 1, x.charger(0, 0));
        due("the last one, with the greatest power", 50, x.charger(4, 0));
        refused("a sixth charger", STATE, Depots::withFiveChargers, y -> y.addCharger(1));
        refused("of five, charger 5", INDEX, Depots::withFiveChargers, y -> y.charger(5, 0));
        refused("charger -1", INDEX, Depots::withFiveChargers, y -> y.charger(-1, 0));
        within(1, 50, ARGUMENT, Depots::busy, (y, power) -> y.addCharger(power));
    }

    private void orderOfChargers() {
        says(TERMS, "They stand in the order of their powers, the greatest first, of several the lowest"
            + " charger first.");
        places(new int[] {1, 50}, 1, 0);
        places(new int[] {50, 1}, 0, 1);
        places(new int[] {20, 21}, 1, 0);
        places(new int[] {20, 20}, 0, 1);
        places(new int[] {21, 20}, 0, 1);
        places(new int[] {7}, 0);
        places(new int[] {7, 7, 7, 7, 7}, 0, 1, 2, 3, 4);
        places(new int[] {1, 2, 3, 4, 5}, 4, 3, 2, 1, 0);
        places(new int[] {6, 7, 6, 7, 6}, 2, 0, 3, 1, 4);
    }

    private void places(int[] powers, int... due) {
        DepotCharge x = new DepotCharge();
        StringBuilder told = new StringBuilder("powers");
        for (int power : powers) {
            x.addCharger(power);
            told.append(' ').append(power);
        }
        for (int c = 0; c < due.length; c++) {
            due(told + ", place of " + c, due[c], x.charger(c, 1));
        }
    }

    // ---- PRICES

    private void hoursOfTheNight() {
        says(TERMS, "It is night in the hours of the day from setting 5 on, 8 of them, across midnight perhaps.");
        for (int start = 0; start < 24; start++) {
            night(start, (start + 23) % 24, 0);
            night(start, start, 1);
            night(start, (start + 1) % 24, 1);
            night(start, (start + 7) % 24, 1);
            night(start, (start + 8) % 24, 0);
        }
        night(16, 23, 1);
        night(16, 0, 0);
        night(17, 0, 1);
        night(23, 22, 0);
        night(23, 6, 1);
        night(23, 7, 0);
        night(22, 46, 1);
        night(22, 45, 0);
    }

    private void night(int start, int hour, int due) {
        DepotCharge x = new DepotCharge();
        x.set(5, start);
        if (hour > 0) {
            x.run(hour);
        }
        due("from " + start + " on, in the hour " + hour, due, x.about(9));
    }

    private void settings() {
        asksNothing(TERMS, "There are settings:");
        setting("0: the limit of the site, 0 to 250, at first 60;", 0, 0, 250, 60);
        setting("1: the price by day, 0 to 99, at first 5;", 1, 0, 99, 5);
        setting("2: the price by night, 0 to 99, at first 2;", 2, 0, 99, 2);
        setting("3: what is paid for a missed route, 0 to 999, at first 100;", 3, 0, 999, 100);
        setting("4: the wear that makes a battery smaller, 1 to 99, at first 20;", 4, 1, 99, 20);
        setting("5: the first hour of the night, 0 to 23, at first 22.", 5, 0, 23, 22);
        missedRoutesArePaid();
    }

    private void setting(String words, int what, int least, int most, int first) {
        says(TERMS, words);
        due("at first", first, new DepotCharge().setting(what));
        within(least, most, ARGUMENT, Depots::busy, (x, v) -> x.set(what, v));
        DepotCharge x = Depots.busy();
        x.set(what, least);
        due("the least", least, x.setting(what));
        x.set(what, most);
        due("the greatest", most, x.setting(what));
    }

    private void missedRoutesArePaid() {
        says(TERMS, "3: what is paid for a missed route, 0 to 999, at first 100;");
        int[] prices = {0, 1, 999};
        for (int price : prices) {
            DepotCharge x = Depots.loaded("bus,10,0,1,0,1;bus,10,0,1,0,1");
            x.set(3, price);
            x.run(1);
            due("two routes at " + price, 2 * price, x.about(3));
        }
    }

    // ---- SIGNS

    private void signOf(int size, int charge, int need, String due) {
        DepotCharge x = new DepotCharge();
        x.addBus(size, charge, need, 9, 10);
        due(charge + " of " + size + ", need " + need, due, Depots.signOf(x, 0));
    }

    private void sign() {
        says(TERMS, "The sign of a bus is a text: the letter b, its number, a blank, its charge, a slash, its size,"
            + " a blank, and then one of these words:");
        signOf(10, 0, 1, "b0 0/10 low");
        signOf(10, 9, 9, "b0 9/10 ok");
        signOf(10, 10, 10, "b0 10/10 full");
        signOf(99, 98, 1, "b0 98/99 ok");
        signOf(400, 400, 400, "b0 400!/400 full");
        DepotCharge x = Depots.withEightBuses();
        due("the last bus", "b7 7/17 ok", Depots.signOf(x, 7));
    }

    private void wordOfASign() {
        says(TERMS, "out (it is out), low (it is in the depot, with a charge below its need),"
            + " full (with the charge of its size), or ok; the first one that applies.");
        signOf(100, 59, 60, "b0 59/100 low");
        signOf(100, 60, 60, "b0 60/100 ok");
        signOf(90, 89, 60, "b0 89/90 ok");
        signOf(90, 90, 60, "b0 90/90 full");
        signOf(90, 90, 90, "b0 90/90 full");
        signOf(90, 90, 91, "b0 90/90 low");
        signOf(90, 89, 90, "b0 89/90 low");
        due("out, with a charge below its need", "b0 40/90 out", Depots.signOf(Depots.left(99, 90, 50), 0));
        due("out, with a charge that would be ok", "b0 50/90 out", Depots.signOf(Depots.left(99, 90, 40), 0));
        due("out, with the charge of its size", "b0 89/89 out", Depots.signOf(Depots.left(1, 90, 1), 0));
    }

    private void markOfASign() {
        says(TERMS, "For a charge that has three digits there is an exclamation mark behind the charge.");
        signOf(99, 99, 1, "b0 99/99 full");
        signOf(100, 99, 1, "b0 99/100 ok");
        signOf(100, 100, 1, "b0 100!/100 full");
        signOf(400, 101, 1, "b0 101!/400 ok");
        signOf(400, 399, 400, "b0 399!/400 low");
        due("out", "b0 100!/101 out", Depots.signOf(Depots.left(99, 101, 1), 0));
        due("out, with two digits", "b0 99/100 out", Depots.signOf(Depots.left(99, 100, 1), 0));
    }

    // ---- ACTIONS AND UNDO

    private void stateWithoutTextAndSlots() {
        says(TERMS, "The methods in the section \"actions\" change the state, which consists of everything but the text"
            + " and the save slots.");
        DepotCharge x = Depots.typed("run");
        x.set(0, 9);
        x.save(0);
        Depots.type(x, ",1");
        x.set(0, 8);
        x.save(1);
        x.undo();
        x.undo();
        due("undo takes back the state", 60, x.setting(0));
        due("undo leaves the text", 5, x.clearText());
        due("undo leaves the slot 0", 0, x.restore(0));
        due("the state in the slot 0", 9, x.setting(0));
        due("undo leaves the slot 1", 0, x.restore(1));
        due("the state in the slot 1", 8, x.setting(0));
    }

    private void actionsThatChangeNothing() {
        says(TERMS, "Each call of one of them that does not throw an exception is an action, also if nothing becomes"
            + " different (undo is none).");
        inVain("the same setting", x -> x.set(0, 60));
        inVain("the same route", x -> x.route(0, 20, 1, 3));
        inVain("the same battery", x -> x.battery(0, 50));
        DepotCharge x = new DepotCharge();
        x.set(0, 1);
        x.set(0, 2);
        due("undo", 1, x.undo());
        due("undo takes back no undo", 0, x.undo());
        due("both are taken back", 60, x.setting(0));
        due("undo is none", STATE, Checks.told(() -> x.undo()));
    }

    private void inVain(String name, Depots.Ask ask) {
        DepotCharge x = Depots.loaded("bus,50,0,20,1,3;plug,1");
        String before = Depots.stateOf(x);
        ask.of(x);
        due(name + " makes nothing different", before, Depots.stateOf(x));
        due(name + " is an action", 0, x.undo());
        due(name + " is one action", STATE, Checks.told(() -> x.undo()));
    }

    private void stateBeforeAnAction() {
        says(TERMS, "Before each action, the state is remembered.");
        takenBack("addBus", x -> x.addBus(50, 40, 20, 1, 2));
        takenBack("addCharger", x -> x.addCharger(50));
        takenBack("route", x -> x.route(1, 400, 3, 2));
        takenBack("battery", x -> x.battery(1, 400));
        takenBack("run", x -> x.run(48));
        for (int i = 0; i <= 5; i++) {
            int what = i;
            takenBack("set " + what, x -> x.set(what, 17));
        }
    }

    private void takenBack(String name, Depots.Ask ask) {
        DepotCharge x = Depots.busy();
        String before = Depots.stateOf(x);
        ask.of(x);
        due(name + " makes something different", 0, before.equals(Depots.stateOf(x)) ? 1 : 0);
        due(name + " is taken back", 13, x.undo());
        due(name + " is taken back: the state", before, Depots.stateOf(x));
    }

    private void fourteenStates() {
        says(TERMS, "At most 14 states are remembered; when one more is remembered, the oldest one is forgotten.");
        remembered(0, 0, 60);
        remembered(1, 1, 60);
        remembered(13, 13, 60);
        remembered(14, 14, 60);
        remembered(15, 14, 1);
        remembered(16, 14, 2);
        remembered(28, 14, 14);
        remembered(29, 14, 15);
        DepotCharge x = limits(14);
        for (int i = 0; i < 5; i++) {
            x.undo();
        }
        for (int i = 0; i < 5; i++) {
            x.set(0, 200 + i);
        }
        due("what is taken back leaves room", 14, countUndo(x));
        due("so that the oldest is not forgotten", 60, x.setting(0));
    }

    /** A depot whose limit was set to 1, 2, and so on. */
    private static DepotCharge limits(int actions) {
        DepotCharge x = new DepotCharge();
        for (int i = 1; i <= actions; i++) {
            x.set(0, i);
        }
        return x;
    }

    private static int countUndo(DepotCharge x) {
        int count = 0;
        while (count < 100 && !Checks.told(() -> x.undo()).equals(STATE)) {
            count++;
        }
        return count;
    }

    private void remembered(int actions, int states, int oldest) {
        DepotCharge x = limits(actions);
        due("behind " + actions + " actions", states, countUndo(x));
        due("behind " + actions + " actions, the oldest state", oldest, x.setting(0));
    }

    private void noActions() {
        says(TERMS, "load and restore are not actions.");
        DepotCharge x = Depots.busy();
        x.load();
        due("load", STATE, Checks.told(() -> x.undo()));
        DepotCharge y = Depots.busy();
        y.restore(1);
        due("restore", STATE, Checks.told(() -> y.undo()));
        DepotCharge z = Depots.busy();
        z.save(1);
        due("save", 13, z.undo());
    }

    // ---- EXCEPTIONS

    private void whatDoesNotExist() {
        says(TERMS, "IndexOutOfBoundsException means that a bus or a charger does not exist, or that a save slot is not"
            + " 0 or 1.");
        within(0, 1, INDEX, Depots::withAllBack, (x, b) -> x.bus(b, 0));
        within(0, 7, INDEX, Depots::withEightBuses, (x, b) -> x.bus(b, 0));
        within(0, 1, INDEX, Depots::withAllBack, (x, b) -> x.sign(b, 0));
        within(0, 1, INDEX, Depots::withAllBack, (x, b) -> x.route(b, 1, 0, 1));
        within(0, 1, INDEX, Depots::withAllBack, (x, b) -> x.battery(b, 10));
        within(0, 1, INDEX, Depots::withAllBack, (x, b) -> x.firstMissed(b));
        within(0, 1, INDEX, Depots::busy, (x, c) -> x.charger(c, 0));
        within(0, 4, INDEX, Depots::withFiveChargers, (x, c) -> x.charger(c, 0));
        within(0, 1, INDEX, Depots::busy, (x, slot) -> x.save(slot));
        within(0, 1, INDEX, Depots::busy, (x, slot) -> x.restore(slot));
        refused("without buses, bus 0", INDEX, DepotCharge::new, x -> x.bus(0, 0));
        refused("without chargers, charger 0", INDEX, DepotCharge::new, x -> x.charger(0, 0));
    }

    private void argumentsOutOfRange() {
        says(TERMS, "IllegalArgumentException means that another argument is out of its range.");
        within(0, 10, ARGUMENT, Depots::busy, (x, what) -> x.about(what));
        within(0, 9, ARGUMENT, Depots::busy, (x, what) -> x.bus(0, what));
        within(0, 2, ARGUMENT, Depots::busy, (x, what) -> x.charger(0, what));
        within(0, 5, ARGUMENT, Depots::busy, (x, what) -> x.setting(what));
        within(1, 48, ARGUMENT, Depots::busy, (x, n) -> x.run(n));
        within(1, 72, ARGUMENT, Depots::busy, (x, n) -> x.leastLimit(n));
    }

    private void whatTheMethodSays() {
        says(TERMS, "IllegalStateException means what the method says.");
        refused("append to 120 characters", STATE, Depots::withFullText, x -> x.append('a'));
        refused("load no depot", STATE, Depots::withBadText, x -> x.load());
        refused("addBus to 8", STATE, Depots::withEightBuses, x -> x.addBus(10, 0, 1, 0, 1));
        refused("addCharger to 5", STATE, Depots::withFiveChargers, x -> x.addCharger(1));
        refused("route of one that is out", STATE, Depots::busy, x -> x.route(0, 1, 0, 1));
        refused("battery of one that is out", STATE, Depots::busy, x -> x.battery(0, 10));
        refused("undo of nothing", STATE, Depots::withNothingToUndo, x -> x.undo());
        refused("ifPlugged to 5", STATE, Depots::withFiveChargers, x -> x.ifPlugged(1, 1));
        refused("restore of nothing", STATE, Depots::withEmptySlots, x -> x.restore(0));
    }

    private void namedFirst() {
        says(TERMS, "If several exceptions apply to a call, the one that its description names first is thrown.");
        refused("append", ARGUMENT, Depots::withFullText, x -> x.append(256));
        refused("bus", INDEX, Depots::busy, x -> x.bus(2, 10));
        refused("charger", INDEX, Depots::busy, x -> x.charger(2, 3));
        refused("sign", INDEX, Depots::busy, x -> x.sign(2, -1));
        refused("addBus", ARGUMENT, Depots::withEightBuses, x -> x.addBus(9, 0, 1, 0, 1));
        refused("addBus with both hours the same", ARGUMENT, Depots::withEightBuses, x -> x.addBus(10, 0, 1, 1, 1));
        refused("addCharger", ARGUMENT, Depots::withFiveChargers, x -> x.addCharger(51));
        refused("route, no bus and no need", INDEX, Depots::busy, x -> x.route(2, 0, 0, 1));
        refused("route, no bus and one hour", INDEX, Depots::busy, x -> x.route(2, 1, 1, 1));
        refused("route, no need and out", ARGUMENT, Depots::busy, x -> x.route(0, 0, 0, 1));
        refused("route, one hour and out", ARGUMENT, Depots::busy, x -> x.route(0, 1, 1, 1));
        refused("battery, no bus and no size", INDEX, Depots::busy, x -> x.battery(2, 9));
        refused("battery, no size and out", ARGUMENT, Depots::busy, x -> x.battery(0, 401));
        refused("ifPlugged, no power", ARGUMENT, Depots::withFiveChargers, x -> x.ifPlugged(0, 1));
        refused("ifPlugged, no hours", ARGUMENT, Depots::withFiveChargers, x -> x.ifPlugged(1, 0));
        refused("restore", INDEX, Depots::withEmptySlots, x -> x.restore(2));
    }

    private void exceptionsChangeNothing() {
        says(TERMS, "A call that throws an exception changes nothing.");
        refused("append", ARGUMENT, Depots::busy, x -> x.append(256));
        refused("bus", ARGUMENT, Depots::busy, x -> x.bus(1, 10));
        refused("charger", ARGUMENT, Depots::busy, x -> x.charger(1, 3));
        refused("addBus", ARGUMENT, Depots::busy, x -> x.addBus(50, 51, 1, 0, 1));
        refused("addCharger", ARGUMENT, Depots::busy, x -> x.addCharger(0));
        refused("route", ARGUMENT, Depots::busy, x -> x.route(1, 7, 8, 24));
        refused("battery", ARGUMENT, Depots::busy, x -> x.battery(1, 401));
        refused("run", ARGUMENT, Depots::busy, x -> x.run(49));
        refused("set", ARGUMENT, Depots::busy, x -> x.set(0, 251));
        refused("coming", ARGUMENT, Depots::busy, x -> x.coming(72, 4));
        refused("leastLimit", ARGUMENT, Depots::busy, x -> x.leastLimit(73));
        refused("bestNight", ARGUMENT, Depots::busy, x -> x.bestNight(73));
        refused("ifPlugged", ARGUMENT, Depots::busy, x -> x.ifPlugged(51, 72));
        refused("runScript", ARGUMENT, Depots::busy, x -> x.runScript(1, 100000));
        refused("simulate", ARGUMENT, Depots::busy, x -> x.simulate(1, 31));
        refused("save", INDEX, Depots::busy, x -> x.save(2));
        refused("restore", INDEX, Depots::busy, x -> x.restore(2));
    }

    private void none() {
        says(TERMS, "The constants: NONE = -1: There is no such result.");
        due("NONE", -1, DepotCharge.NONE);
        due("a sign that is not so long", -1, Depots.busy().sign(0, 99));
        due("no bus at a charger", -1, Depots.busy().charger(0, 2));
        due("a text that is a depot", -1, Depots.busy().errorPosition());
        due("a script that succeeds", -1, Depots.busy().runScript(1, 10001));
    }

    private void callsThatChangeNothing() {
        says(TERMS, "Ahead of the calls coming, firstMissed, leastLimit, bestNight, ifPlugged the interface says:"
            + " ---- what would be; these and all following methods up to the save slots change nothing.");
        changesNothing("coming", Depots::busy, x -> x.coming(72, 0));
        changesNothing("firstMissed", Depots::busy, x -> x.firstMissed(0));
        changesNothing("leastLimit", Depots::busy, x -> x.leastLimit(72));
        changesNothing("bestNight", Depots::busy, x -> x.bestNight(72));
        changesNothing("ifPlugged", Depots::busy, x -> x.ifPlugged(50, 72));
        changesNothing("runScript", Depots::busy, x -> x.runScript(3, 211113020040050L));
        changesNothing("simulate", Depots::busy, x -> x.simulate(5, 30));
        changesNothing("looking on", Depots::busy, x -> x.bus(1, 7) + x.charger(1, 2) + x.about(10) + x.sign(0, 1));
        changesNothing("errorPosition", Depots::busy, x -> x.errorPosition());
    }
}
