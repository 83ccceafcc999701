/** The boundary cases of the promises 1, 6 to 17, 25 and 26: a new object, what there is, actions, save slots. */
final class CallBoundaries extends Boundaries {
    private static final String NEW = "Promise 1";
    private static final String ABOUT = "Promise 6";
    private static final String BUS = "Promise 7";
    private static final String CHARGER = "Promise 8";
    private static final String SIGN = "Promise 9";
    private static final String SETTING = "Promise 10";
    private static final String ADD_BUS = "Promise 11";
    private static final String ADD_CHARGER = "Promise 12";
    private static final String ROUTE = "Promise 13";
    private static final String BATTERY = "Promise 14";
    private static final String RUN = "Promise 15";
    private static final String SET = "Promise 16";
    private static final String UNDO = "Promise 17";
    private static final String SAVE = "Promise 25";
    private static final String RESTORE = "Promise 26";

    private static final int[] LEAST = {0, 0, 0, 0, 1, 0};
    private static final int[] MOST = {250, 99, 99, 999, 99, 23};

    CallBoundaries(Checks checks, Document document) {
        super(checks, document);
    }

    @Override
    void runAll() {
        newObject();
        aboutBuses();
        aboutChargers();
        aboutHour();
        aboutPaid();
        aboutCharged();
        aboutMissed();
        aboutGone();
        aboutOut();
        aboutLow();
        aboutNight();
        aboutUnitsTogether();
        aboutRefuses();
        busThatIsAsked();
        busNumbers();
        busUnits();
        busCharger();
        busHoursUntilItLeaves();
        busRefusesBuses();
        busRefusesNumbers();
        chargerThatIsAsked();
        chargerPower();
        chargerPlace();
        chargerInTheHour();
        chargerRefusesChargers();
        chargerRefusesNumbers();
        signOfABus();
        signIndex();
        signCharacter();
        signRefusesBuses();
        signRefusesIndexes();
        settingThatIsAsked();
        settingNumber();
        settingRefuses();
        addBusInTheDepot();
        addBusSize();
        addBusCharge();
        addBusNeed();
        addBusLeaves();
        addBusBack();
        addBusTellsTheNumber();
        addBusRefusesArguments();
        addBusRefusesANinth();
        addChargerToTheOthers();
        addChargerPower();
        addChargerTellsTheNumber();
        addChargerRefusesPowers();
        addChargerRefusesASixth();
        routeIsGiven();
        routeBus();
        routeNeed();
        routeLeaves();
        routeBack();
        routeTellsTheNeed();
        routeRefusesBuses();
        routeRefusesArguments();
        routeRefusesWhenOut();
        batteryIsNew();
        batteryBus();
        batterySize();
        batteryTellsTheSize();
        batteryRefusesBuses();
        batteryRefusesSizes();
        batteryRefusesWhenOut();
        runGoesOn();
        runHours();
        runTellsTheUnits();
        runRefuses();
        setChanges();
        setSetting();
        setValue();
        setTellsThePrevious();
        setRefuses();
        undoTakesBack();
        undoTellsHowManyAreLeft();
        undoRefuses();
        saveStores();
        saveSlot();
        saveTellsTheHour();
        saveRefuses();
        restoreReplaces();
        restoreKeepsTheSlot();
        restoreSlot();
        restoreTellsTheHour();
        restoreRefusesSlots();
        restoreRefusesEmptySlots();
    }

    // ---- 1

    private void newObject() {
        says(NEW, "Creates a depot without buses and chargers.");
        DepotCharge x = new DepotCharge();
        for (int what = 0; what <= 10; what++) {
            due("about " + what, what == 9 ? 1 : 0, x.about(what));
        }
        int[] settings = {60, 5, 2, 100, 20, 22};
        for (int what = 0; what <= 5; what++) {
            due("setting " + what, settings[what], x.setting(what));
        }
        due("no text", 0, x.clearText());
        refused("no bus", INDEX, DepotCharge::new, y -> y.bus(0, 0));
        refused("no charger", INDEX, DepotCharge::new, y -> y.charger(0, 0));
        refused("nothing to undo", STATE, DepotCharge::new, y -> y.undo());
        refused("nothing saved in slot 0", STATE, DepotCharge::new, y -> y.restore(0));
        refused("nothing saved in slot 1", STATE, DepotCharge::new, y -> y.restore(1));
        DepotCharge other = new DepotCharge();
        other.addBus(50, 1, 2, 3, 4);
        due("two objects have nothing in common", 0, x.about(0));
    }

    // ---- 6

    private void aboutBuses() {
        asksNothing(ABOUT, "Returns a number.");
        asksNothing(ABOUT, "Returns that number.");
        asksNothing(ABOUT, "what:");
        says(ABOUT, "0: the buses;");
        due("none", 0, new DepotCharge().about(0));
        due("all eight", 8, Depots.withEightBuses().about(0));
    }

    private void aboutChargers() {
        says(ABOUT, "1: the chargers;");
        due("none", 0, new DepotCharge().about(1));
        due("all five", 5, Depots.withFiveChargers().about(1));
    }

    private void aboutHour() {
        says(ABOUT, "2: the hour of now;");
        due("the first hour", 0, new DepotCharge().about(2));
        due("the last hour of a day", 23, Depots.loaded("run,23").about(2));
        due("the first hour of the next day", 24, Depots.loaded("run,24").about(2));
        due("two days", 48, Depots.loaded("run,48").about(2));
    }

    private void aboutPaid() {
        says(ABOUT, "3: what was paid so far, for what was charged and for missed routes;");
        DepotCharge x = Depots.loaded("bus,50,0,50,0,12;plug,10");
        due("nothing yet", 0, x.about(3));
        x.run(1);
        due("a missed route, and 10 units by night", 120, x.about(3));
        x.run(4);
        due("40 units more", 200, x.about(3));
        x.run(19);
        due("nothing more, as it is full", 200, x.about(3));
        x.undo();
        x.undo();
        x.undo();
        due("what is undone is not paid", 0, x.about(3));
    }

    private void aboutCharged() {
        says(ABOUT, "4: the units that were charged so far;");
        DepotCharge x = Depots.loaded("bus,50,9,50,1,12;plug,40");
        due("nothing yet", 0, x.about(4));
        x.run(1);
        due("one hour", 40, x.about(4));
        x.run(1);
        due("the last unit, behind the route that it missed", 41, x.about(4));
        x.run(6);
        due("full", 41, x.about(4));
    }

    private void aboutMissed() {
        says(ABOUT, "5: the routes that were missed so far;");
        due("before", 0, Depots.loaded("bus,50,49,50,0,12").about(5));
        due("one less than the need", 1, Depots.loaded("bus,50,49,50,0,12;run,1").about(5));
        due("the need", 0, Depots.loaded("bus,50,50,50,0,12;run,1").about(5));
        due("in the hour of each of three days", 3, Depots.loaded("bus,50,49,50,0,12;run,48;run,1").about(5));
    }

    private void aboutGone() {
        says(ABOUT, "6: the routes that were gone so far (buses that left);");
        due("before", 0, Depots.loaded("bus,50,50,50,0,12").about(6));
        due("one less than the need", 0, Depots.loaded("bus,50,49,50,0,12;run,1").about(6));
        due("the need", 1, Depots.loaded("bus,50,50,50,0,12;run,1").about(6));
        due("one that is back is gone all the same", 1, Depots.loaded("bus,50,50,50,0,12;run,13").about(6));
    }

    private void aboutOut() {
        DepotCharge x = Depots.loaded("bus,50,50,30,0,12;bus,50,29,30,9,12;bus,50,30,30,9,12;bus,50,31,30,9,12");
        says(ABOUT, "7: the buses that are out;");
        due("none", 0, x.about(7));
        x.run(1);
        due("one", 1, x.about(7));
        x.run(11);
        due("all but the one that is below its need, in the hour of coming back", 3, x.about(7));
        x.run(1);
        due("none any more", 0, x.about(7));
    }

    private void aboutLow() {
        says(ABOUT, "8: the buses in the depot with a charge below their need;");
        DepotCharge y = Depots.loaded("bus,50,50,30,0,12;bus,50,29,30,9,12;bus,50,30,30,9,12;bus,50,31,30,9,12");
        due("one less than the need", 1, y.about(8));
        y.run(1);
        due("not the one that is out", 1, y.about(8));
        y.run(12);
        due("all four, back with less", 4, y.about(8));
        due("without buses", 0, new DepotCharge().about(8));
    }

    private void aboutNight() {
        says(ABOUT, "9: 1 if it is night, otherwise 0;");
        due("the last hour before the night", 0, Depots.loaded("run,21").about(9));
        due("the first hour of the night", 1, Depots.loaded("run,22").about(9));
        due("the last hour of the night", 1, Depots.loaded("run,5").about(9));
        due("the hour behind it", 0, Depots.loaded("run,6").about(9));
    }

    private void aboutUnitsTogether() {
        says(ABOUT, "10: the units that all buses have together");
        due("no bus", 0, new DepotCharge().about(10));
        DepotCharge x = new DepotCharge();
        for (int b = 0; b < 8; b++) {
            x.addBus(400, 400, 399, 0, 12);
        }
        due("the most", 3200, x.about(10));
        x.run(1);
        due("of those that are out too", 8, x.about(10));
    }

    private void aboutRefuses() {
        says(ABOUT, "Throws IllegalArgumentException if what is not 0 to 10");
        within(0, 10, ARGUMENT, Depots::busy, (x, what) -> x.about(what));
        within(0, 10, ARGUMENT, DepotCharge::new, (x, what) -> x.about(what));
    }

    // ---- 7

    private void busThatIsAsked() {
        asksNothing(BUS, "Returns a number of a bus.");
        asksNothing(BUS, "Returns that number.");
        says(BUS, "b: bus");
        DepotCharge eight = Depots.withEightBuses();
        due("the first one", 100, eight.bus(0, 0));
        due("the last one", 17, eight.bus(7, 0));
    }

    private void busNumbers() {
        says(BUS, "what: 0: its size; 1: its charge; 2: its need; 3: the hour at which it leaves; 4: the hour at which"
            + " it comes back; 5: its wear; 6: 1 if it is out, otherwise 0;");
        DepotCharge x = new DepotCharge();
        x.addBus(10, 0, 1, 0, 23);
        x.addBus(400, 400, 400, 23, 0);
        int[] least = {10, 0, 1, 0, 23, 0, 0};
        int[] most = {400, 400, 400, 23, 0, 0, 0};
        for (int what = 0; what <= 6; what++) {
            due("the least " + what, least[what], x.bus(0, what));
            due("the most " + what, most[what], x.bus(1, what));
        }
        x.run(24);
        int[] out = {400, 0, 400, 23, 0, 3, 1};
        for (int what = 0; what <= 6; what++) {
            due("out " + what, out[what], x.bus(1, what));
        }
        x.run(1);
        due("back in the first hour of the next day", 0, x.bus(1, 6));
    }

    /**
     * A depot in the hour 1, with chargers of 9 and 7. The bus 0 is out until the hour 2. The bus 1 leaves in the
     * hour 1, since it got 9 in the hour before. The bus 2 is full, and leaves in the hour 2.
     */
    private static DepotCharge inTheHour1() {
        return Depots.loaded("set,5,12;bus,50,50,20,0,2;bus,50,19,20,1,3;bus,50,50,20,2,3;plug,9;plug,7;run,1");
    }

    private void busUnits() {
        says(BUS, "7: the units that it would get if this hour went by now (behind 1 and 2);");
        DepotCharge x = inTheHour1();
        due("out for one hour more", 0, x.bus(0, 7));
        due("leaves in this hour", 0, x.bus(1, 7));
        due("wants nothing", 0, x.bus(2, 7));
        x.run(1);
        x.route(2, 51, 2, 3);
        due("comes back in this hour, with more than its need", 0, x.bus(0, 7));
        due("full, though below its need", 0, x.bus(2, 7));
        x.battery(2, 50);
        due("misses its route in this hour", 9, x.bus(2, 7));
        x.set(5, 2);
        due("comes back in this hour, by night", 7, x.bus(0, 7));
    }

    private void busCharger() {
        says(BUS, "8: the charger at which it would be then, NONE if at none;");
        DepotCharge x = inTheHour1();
        x.run(1);
        x.battery(2, 50);
        x.set(5, 2);
        due("misses its route in this hour", 0, x.bus(2, 8));
        due("comes back in this hour, by night", 1, x.bus(0, 8));
        due("out", NONE, x.bus(1, 8));
        x.set(5, 3);
        due("comes back in this hour, by day", NONE, x.bus(0, 8));
        x.set(0, 0);
        due("without a limit, but at a charger", 0, x.bus(2, 8));
        due("no charger in the depot", NONE, Depots.loaded("bus,50,0,20,0,2").bus(0, 8));
    }

    private void busHoursUntilItLeaves() {
        says(BUS, "9: the hours until it leaves next, 1 to 24 (as told for those in want, whether it is out or not)");
        for (int leaves = 0; leaves < 24; leaves++) {
            DepotCharge x = new DepotCharge();
            x.addBus(400, 400, 1, leaves, leaves == 0 ? 23 : leaves - 1);
            for (int hour = 0; hour <= 48; hour++) {
                int hours = leaves - hour;
                while (hours < 1) {
                    hours += 24;
                }
                due("at " + leaves + ", in the hour " + hour, hours, x.bus(0, 9));
                x.run(1);
            }
        }
    }

    private void busRefusesBuses() {
        says(BUS, "Throws IndexOutOfBoundsException if there is no such bus");
        within(0, 1, INDEX, Depots::busy, (x, b) -> x.bus(b, 0));
        within(0, 7, INDEX, Depots::withEightBuses, (x, b) -> x.bus(b, 9));
        refused("no bus at all", INDEX, DepotCharge::new, x -> x.bus(0, 0));
    }

    private void busRefusesNumbers() {
        says(BUS, "Throws IllegalArgumentException if what is not 0 to 9");
        within(0, 9, ARGUMENT, Depots::busy, (x, what) -> x.bus(0, what));
        within(0, 9, ARGUMENT, Depots::busy, (x, what) -> x.bus(1, what));
    }

    // ---- 8

    private void chargerThatIsAsked() {
        asksNothing(CHARGER, "Returns a number of a charger.");
        asksNothing(CHARGER, "Returns that number.");
        says(CHARGER, "c: charger");
        DepotCharge x = Depots.withFiveChargers();
        due("the first one", 10, x.charger(0, 0));
        due("the last one", 40, x.charger(4, 0));
    }

    private void chargerPower() {
        says(CHARGER, "what: 0: its power;");
        DepotCharge y = Depots.loaded("plug,1;plug,50");
        due("the least", 1, y.charger(0, 0));
        due("the greatest", 50, y.charger(1, 0));
    }

    private void chargerPlace() {
        says(CHARGER, "1: its place in the order of the chargers, from 0;");
        due("the only one", 0, Depots.loaded("plug,1").charger(0, 1));
        int[] places = {3, 1, 4, 2, 0};
        DepotCharge x = Depots.loaded("plug,2;plug,3;plug,1;plug,3;plug,50");
        for (int c = 0; c < 5; c++) {
            due("of five, charger " + c, places[c], x.charger(c, 1));
        }
    }

    private void chargerInTheHour() {
        says(CHARGER, "2: the bus that would be at it if this hour went by now, NONE if none would");
        DepotCharge x = Depots.loaded("set,5,12;bus,50,50,20,1,3;bus,50,0,20,9,3;plug,7;plug,9;plug,8");
        due("no bus", NONE, Depots.loaded("plug,7").charger(0, 2));
        due("the first charger in the order", 1, x.charger(1, 2));
        due("the second one", NONE, x.charger(2, 2));
        due("the last one", NONE, x.charger(0, 2));
        x.route(0, 51, 9, 3);
        due("a full bus, below its need", NONE, x.charger(2, 2));
        x.battery(0, 50);
        due("the one that lacks more", 0, x.charger(1, 2));
        due("the other one", 1, x.charger(2, 2));
        due("no bus is left", NONE, x.charger(0, 2));
        DepotCharge y = Depots.loaded("bus,50,50,20,0,2;plug,7");
        due("leaves in this hour", NONE, y.charger(0, 2));
        y.run(1);
        due("is out in this hour", NONE, y.charger(0, 2));
        y.run(1);
        due("comes back in this hour", 0, y.charger(0, 2));
    }

    private void chargerRefusesChargers() {
        says(CHARGER, "Throws IndexOutOfBoundsException if there is no such charger");
        within(0, 1, INDEX, Depots::busy, (x, c) -> x.charger(c, 0));
        within(0, 4, INDEX, Depots::withFiveChargers, (x, c) -> x.charger(c, 2));
        refused("no charger at all", INDEX, DepotCharge::new, x -> x.charger(0, 0));
    }

    private void chargerRefusesNumbers() {
        says(CHARGER, "Throws IllegalArgumentException if what is not 0 to 2");
        within(0, 2, ARGUMENT, Depots::busy, (x, what) -> x.charger(0, what));
        within(0, 2, ARGUMENT, Depots::busy, (x, what) -> x.charger(1, what));
    }

    // ---- 9

    private void signOfABus() {
        asksNothing(SIGN, "Returns a character of the sign of a bus.");
        says(SIGN, "b: bus");
        due("the first one", '0', Depots.withEightBuses().sign(0, 1));
        due("the last one", '7', Depots.withEightBuses().sign(7, 1));
    }

    private void signIndex() {
        says(SIGN, "i: index, from 0");
        DepotCharge x = Depots.loaded("bus,10,0,1,9,10");
        due("the first character", 'b', x.sign(0, 0));
        due("the second one", '0', x.sign(0, 1));
        due("the third one", ' ', x.sign(0, 2));
    }

    private void signCharacter() {
        says(SIGN, "Returns the code of this character; NONE if the sign is not so long.");
        DepotCharge x = Depots.loaded("bus,10,0,1,9,10;bus,400,400,1,9,10;bus,10,9,1,9,10;bus,10,10,1,9,10");
        // The signs are "b0 0/10 low", "b1 400!/400 full", "b2 9/10 ok" and "b3 10/10 full".
        int[] lengths = {11, 16, 10, 13};
        char[] last = {'w', 'l', 'k', 'l'};
        for (int b = 0; b < 4; b++) {
            due("the last character of " + b, last[b], x.sign(b, lengths[b] - 1));
            due("behind the sign of " + b, NONE, x.sign(b, lengths[b]));
            due("far behind the sign of " + b, NONE, x.sign(b, Integer.MAX_VALUE));
        }
        due("the mark", '!', x.sign(1, 6));
        due("the slash behind it", '/', x.sign(1, 7));
    }

    private void signRefusesBuses() {
        says(SIGN, "Throws IndexOutOfBoundsException if there is no such bus");
        within(0, 1, INDEX, Depots::busy, (x, b) -> x.sign(b, 0));
        within(0, 7, INDEX, Depots::withEightBuses, (x, b) -> x.sign(b, 99));
    }

    private void signRefusesIndexes() {
        says(SIGN, "Throws IllegalArgumentException if i is negative");
        refused("-1", ARGUMENT, Depots::busy, x -> x.sign(0, -1));
        refused("the least number", ARGUMENT, Depots::busy, x -> x.sign(1, Integer.MIN_VALUE));
        due("0", 'b', Depots.busy().sign(0, 0));
    }

    // ---- 10

    private void settingThatIsAsked() {
        asksNothing(SETTING, "Returns a setting.");
        says(SETTING, "what: 0 to 5");
        due("the first one", 25, Depots.busy().setting(0));
        due("the last one", 22, Depots.busy().setting(5));
    }

    private void settingNumber() {
        says(SETTING, "Returns that setting.");
        for (int what = 0; what <= 5; what++) {
            DepotCharge x = new DepotCharge();
            x.set(what, LEAST[what]);
            due("the least " + what, LEAST[what], x.setting(what));
            x.set(what, MOST[what]);
            due("the greatest " + what, MOST[what], x.setting(what));
        }
    }

    private void settingRefuses() {
        says(SETTING, "Throws IllegalArgumentException if what is out of range");
        within(0, 5, ARGUMENT, Depots::busy, (x, what) -> x.setting(what));
    }

    // ---- 11

    private void addBusInTheDepot() {
        says(ADD_BUS, "Adds a bus, in the depot.");
        DepotCharge x = Depots.loaded("run,5");
        x.addBus(50, 40, 30, 4, 6);
        due("in the depot, between its hours", 0, x.bus(0, 6));
        due("it is one more", 1, x.about(0));
        DepotCharge y = new DepotCharge();
        y.addBus(50, 50, 50, 0, 9);
        y.run(1);
        due("one that is out, and worn", 4, y.bus(0, 5) + y.bus(0, 6));
        y.undo();
        y.run(1);
        y.undo();
        y.undo();
        y.addBus(60, 5, 6, 7, 8);
        due("the one behind it with its number, in the depot", 0, y.bus(0, 6));
        due("the one behind it with its number, without wear", 0, y.bus(0, 5));
        DepotCharge z = Depots.busy();
        z.restore(0);
        z.restore(1);
        z.load();
        due("the first one behind a load", 0, z.addBus(60, 5, 6, 7, 8));
        due("the first one behind a load, in the depot", 0, z.bus(0, 6));
        due("the first one behind a load, without wear", 0, z.bus(0, 5));
    }

    private void addBusSize() {
        says(ADD_BUS, "size: 10 to 400");
        within(10, 400, ARGUMENT, Depots::busy, (y, size) -> y.addBus(size, 0, 1, 0, 1));
    }

    private void addBusCharge() {
        says(ADD_BUS, "charge: 0 to size");
        within(0, 10, ARGUMENT, Depots::busy, (y, charge) -> y.addBus(10, charge, 1, 0, 1));
        within(0, 77, ARGUMENT, Depots::busy, (y, charge) -> y.addBus(77, charge, 1, 0, 1));
        within(0, 400, ARGUMENT, Depots::busy, (y, charge) -> y.addBus(400, charge, 1, 0, 1));
    }

    private void addBusNeed() {
        says(ADD_BUS, "need: 1 to 400");
        within(1, 400, ARGUMENT, Depots::busy, (y, need) -> y.addBus(10, 0, need, 0, 1));
    }

    private void addBusLeaves() {
        says(ADD_BUS, "leaves: hour of the day, 0 to 23");
        within(0, 23, ARGUMENT, Depots::busy, (y, leaves) -> y.addBus(10, 0, 1, leaves, 12));
    }

    private void addBusBack() {
        says(ADD_BUS, "back: another hour of the day");
        within(0, 23, ARGUMENT, Depots::busy, (y, back) -> y.addBus(10, 0, 1, 12, back));
        within(0, 22, ARGUMENT, Depots::busy, (y, back) -> y.addBus(10, 0, 1, 23, back));
        within(1, 23, ARGUMENT, Depots::busy, (y, back) -> y.addBus(10, 0, 1, 0, back));
    }

    private void addBusTellsTheNumber() {
        says(ADD_BUS, "Returns its number.");
        DepotCharge z = new DepotCharge();
        for (int b = 0; b < 8; b++) {
            due("bus " + b, b, z.addBus(10, 0, 1, 0, 1));
        }
        z.undo();
        due("the last one again", 7, z.addBus(10, 0, 1, 0, 1));
    }

    private void addBusRefusesArguments() {
        says(ADD_BUS, "Throws IllegalArgumentException if an argument is out of range, or both hours are the same");
        refused("size 9", ARGUMENT, Depots::busy, x -> x.addBus(9, 0, 1, 0, 1));
        refused("size 401", ARGUMENT, Depots::busy, x -> x.addBus(401, 0, 1, 0, 1));
        refused("charge above the size", ARGUMENT, Depots::busy, x -> x.addBus(10, 11, 1, 0, 1));
        refused("need 0", ARGUMENT, Depots::busy, x -> x.addBus(10, 0, 0, 0, 1));
        refused("need 401", ARGUMENT, Depots::busy, x -> x.addBus(10, 0, 401, 0, 1));
        for (int i = 0; i < 24; i++) {
            int hour = i;
            refused("both hours " + hour, ARGUMENT, Depots::busy, x -> x.addBus(10, 0, 1, hour, hour));
            due("hours next to each other, " + hour, 2, Depots.busy().addBus(10, 0, 1, hour, (hour + 1) % 24));
        }
    }

    private void addBusRefusesANinth() {
        says(ADD_BUS, "Throws IllegalStateException if there are 8");
        refused("a ninth", STATE, Depots::withEightBuses, x -> x.addBus(10, 0, 1, 0, 1));
        DepotCharge seven = Depots.withEightBuses();
        seven.undo();
        due("an eighth", 7, seven.addBus(10, 0, 1, 0, 1));
    }

    // ---- 12

    private void addChargerToTheOthers() {
        says(ADD_CHARGER, "Adds a charger.");
        DepotCharge x = Depots.busy();
        x.addCharger(30);
        due("it is one more", 3, x.about(1));
        due("its power", 30, x.charger(2, 0));
    }

    private void addChargerPower() {
        says(ADD_CHARGER, "power: 1 to 50");
        within(1, 50, ARGUMENT, Depots::busy, (y, power) -> y.addCharger(power));
    }

    private void addChargerTellsTheNumber() {
        says(ADD_CHARGER, "Returns its number.");
        DepotCharge z = new DepotCharge();
        for (int c = 0; c < 5; c++) {
            due("charger " + c, c, z.addCharger(50 - c));
        }
        z.undo();
        due("the last one again", 4, z.addCharger(1));
    }

    private void addChargerRefusesPowers() {
        says(ADD_CHARGER, "Throws IllegalArgumentException if power is out of range");
        refused("0", ARGUMENT, Depots::busy, x -> x.addCharger(0));
        refused("51", ARGUMENT, Depots::busy, x -> x.addCharger(51));
    }

    private void addChargerRefusesASixth() {
        says(ADD_CHARGER, "Throws IllegalStateException if there are 5");
        refused("a sixth", STATE, Depots::withFiveChargers, x -> x.addCharger(50));
        DepotCharge four = Depots.withFiveChargers();
        four.undo();
        due("a fifth", 4, four.addCharger(50));
    }

    // ---- 13

    private void routeIsGiven() {
        says(ROUTE, "Gives a bus another route.");
        DepotCharge x = Depots.loaded("bus,50,40,20,9,12;run,3");
        x.route(0, 40, 3, 4);
        int[] due = {50, 40, 40, 3, 4};
        for (int what = 0; what < 5; what++) {
            due("number " + what, due[what], x.bus(0, what));
        }
        x.run(1);
        due("one that leaves at this hour leaves in it", 1, x.bus(0, 6));
    }

    private void routeBus() {
        says(ROUTE, "b: bus");
        due("the first one", 60, Depots.withAllBack().route(0, 1, 0, 1));
        due("the last one", 7, Depots.withEightBuses().route(7, 1, 0, 1));
    }

    private void routeNeed() {
        says(ROUTE, "need: 1 to 400");
        within(1, 400, ARGUMENT, Depots::busy, (y, need) -> y.route(1, need, 0, 1));
    }

    private void routeLeaves() {
        says(ROUTE, "leaves: hour of the day");
        within(0, 23, ARGUMENT, Depots::busy, (y, leaves) -> y.route(1, 1, leaves, 12));
    }

    private void routeBack() {
        says(ROUTE, "back: another hour of the day");
        within(0, 23, ARGUMENT, Depots::busy, (y, back) -> y.route(1, 1, 12, back));
        within(0, 22, ARGUMENT, Depots::busy, (y, back) -> y.route(1, 1, 23, back));
        within(1, 23, ARGUMENT, Depots::busy, (y, back) -> y.route(1, 1, 0, back));
    }

    private void routeTellsTheNeed() {
        says(ROUTE, "Returns its previous need.");
        DepotCharge z = Depots.busy();
        due("at first", 30, z.route(1, 1, 0, 1));
        due("the least", 1, z.route(1, 400, 0, 1));
        due("the greatest", 400, z.route(1, 7, 0, 1));
    }

    private void routeRefusesBuses() {
        says(ROUTE, "Throws IndexOutOfBoundsException if there is no such bus");
        within(0, 1, INDEX, Depots::withAllBack, (x, b) -> x.route(b, 1, 0, 1));
        refused("no bus at all", INDEX, DepotCharge::new, x -> x.route(0, 1, 0, 1));
    }

    private void routeRefusesArguments() {
        says(ROUTE, "Throws IllegalArgumentException if another argument is out of range, or both hours are the same");
        refused("need 0", ARGUMENT, Depots::busy, x -> x.route(1, 0, 0, 1));
        refused("need 401", ARGUMENT, Depots::busy, x -> x.route(1, 401, 0, 1));
        for (int i = 0; i < 24; i++) {
            int hour = i;
            refused("both hours " + hour, ARGUMENT, Depots::busy, x -> x.route(1, 1, hour, hour));
            due("hours next to each other, " + hour, 30, Depots.busy().route(1, 1, hour, (hour + 1) % 24));
        }
    }

    private void routeRefusesWhenOut() {
        says(ROUTE, "Throws IllegalStateException if it is out");
        // The bus 0 leaves in the hour 1 and comes back in the hour 9.
        for (int i = 2; i <= 9; i++) {
            int hour = i;
            refused("out in the hour " + hour, STATE, () -> inTheHour(hour), x -> x.route(0, 1, 0, 1));
        }
        due("in the hour in which it leaves", 60, inTheHour(1).route(0, 1, 0, 1));
        due("in the hour behind the one in which it comes back", 60, inTheHour(10).route(0, 1, 0, 1));
    }

    private static DepotCharge inTheHour(int hour) {
        DepotCharge x = Depots.loaded("bus,100,90,60,1,9;plug,1");
        x.save(0);
        x.set(0, 9);
        x.run(hour);
        return x;
    }

    // ---- 14

    private void batteryIsNew() {
        says(BATTERY, "Puts a new battery into a bus: its charge and its wear are 0.");
        DepotCharge x = Depots.withAllBack();
        due("worn before", 2, x.bus(0, 5));
        x.battery(0, 400);
        due("wear", 0, x.bus(0, 5));
        due("charge", 0, x.bus(0, 1));
        due("size", 400, x.bus(0, 0));
        due("the need stays", 60, x.bus(0, 2));
        due("the hour of leaving stays", 1, x.bus(0, 3));
        due("the hour of coming back stays", 9, x.bus(0, 4));
    }

    private void batteryBus() {
        says(BATTERY, "b: bus");
        due("the first one", 100, Depots.withAllBack().battery(0, 10));
        due("the last one", 17, Depots.withEightBuses().battery(7, 10));
    }

    private void batterySize() {
        says(BATTERY, "size: 10 to 400");
        within(10, 400, ARGUMENT, Depots::busy, (y, size) -> y.battery(1, size));
    }

    private void batteryTellsTheSize() {
        says(BATTERY, "Returns its previous size.");
        DepotCharge z = Depots.busy();
        due("at first", 50, z.battery(1, 10));
        due("the least", 10, z.battery(1, 400));
        due("the greatest", 400, z.battery(1, 50));
        DepotCharge worn = Depots.left(1, 100, 1);
        worn.run(1);
        due("one that has become smaller", 99, worn.battery(0, 100));
    }

    private void batteryRefusesBuses() {
        says(BATTERY, "Throws IndexOutOfBoundsException if there is no such bus");
        within(0, 1, INDEX, Depots::withAllBack, (x, b) -> x.battery(b, 10));
        refused("no bus at all", INDEX, DepotCharge::new, x -> x.battery(0, 10));
    }

    private void batteryRefusesSizes() {
        says(BATTERY, "Throws IllegalArgumentException if size is out of range");
        refused("9", ARGUMENT, Depots::busy, x -> x.battery(1, 9));
        refused("401", ARGUMENT, Depots::busy, x -> x.battery(1, 401));
    }

    private void batteryRefusesWhenOut() {
        says(BATTERY, "Throws IllegalStateException if it is out");
        for (int i = 2; i <= 9; i++) {
            int hour = i;
            refused("out in the hour " + hour, STATE, () -> inTheHour(hour), x -> x.battery(0, 10));
        }
        due("in the hour in which it leaves", 100, inTheHour(1).battery(0, 10));
        due("in the hour behind the one in which it comes back", 100, inTheHour(10).battery(0, 10));
    }

    // ---- 15

    private void runGoesOn() {
        says(RUN, "Lets hours go by.");
        DepotCharge x = new DepotCharge();
        x.run(1);
        due("one", 1, x.about(2));
        x.run(48);
        due("48 more", 49, x.about(2));
    }

    private void runHours() {
        says(RUN, "n: 1 to 48");
        within(1, 48, ARGUMENT, Depots::busy, (y, n) -> y.run(n));
    }

    private void runTellsTheUnits() {
        says(RUN, "Returns how many units are charged in them.");
        DepotCharge z = Depots.loaded("set,0,250;bus,400,0,400,23,22;bus,400,0,400,23,22;plug,50;plug,50");
        due("one hour", 100, z.run(1));
        due("three hours, without the one before", 300, z.run(3));
        due("until they are full", 400, z.run(19));
        due("the hour in which they leave", 0, z.run(1));
        due("until the same hour of the next day, in the last two hours of which they are back", 200, z.run(24));
    }

    private void runRefuses() {
        says(RUN, "Throws IllegalArgumentException if n is out of range");
        refused("0", ARGUMENT, Depots::busy, x -> x.run(0));
        refused("-1", ARGUMENT, Depots::busy, x -> x.run(-1));
        refused("49", ARGUMENT, Depots::busy, x -> x.run(49));
        refused("0, in a new object", ARGUMENT, DepotCharge::new, x -> x.run(0));
    }

    // ---- 16

    private void setChanges() {
        says(SET, "Changes a setting.");
        for (int what = 0; what <= 5; what++) {
            DepotCharge x = new DepotCharge();
            x.set(what, 17);
            for (int other = 0; other <= 5; other++) {
                due("set " + what + ", setting " + other, other == what ? 17 : new DepotCharge().setting(other),
                    x.setting(other));
            }
        }
    }

    private void setSetting() {
        says(SET, "what: 0 to 5");
        within(0, 5, ARGUMENT, Depots::busy, (x, what) -> x.set(what, 1));
    }

    private void setValue() {
        says(SET, "v: the new value, in its range");
        for (int i = 0; i <= 5; i++) {
            int what = i;
            within(LEAST[what], MOST[what], ARGUMENT, Depots::busy, (x, v) -> x.set(what, v));
        }
    }

    private void setTellsThePrevious() {
        says(SET, "Returns the previous one.");
        int[] first = {60, 5, 2, 100, 20, 22};
        for (int what = 0; what <= 5; what++) {
            DepotCharge x = new DepotCharge();
            due("the first " + what, first[what], x.set(what, LEAST[what]));
            due("the least " + what, LEAST[what], x.set(what, MOST[what]));
            due("the greatest " + what, MOST[what], x.set(what, MOST[what]));
        }
    }

    private void setRefuses() {
        says(SET, "Throws IllegalArgumentException if what or v is out of range");
        for (int i = 0; i <= 5; i++) {
            int what = i;
            refused("below " + what, ARGUMENT, Depots::busy, x -> x.set(what, LEAST[what] - 1));
            refused("above " + what, ARGUMENT, Depots::busy, x -> x.set(what, MOST[what] + 1));
        }
        refused("setting -1", ARGUMENT, Depots::busy, x -> x.set(-1, 1));
        refused("setting 6", ARGUMENT, Depots::busy, x -> x.set(6, 1));
        refused("neither", ARGUMENT, Depots::busy, x -> x.set(6, -1));
    }

    // ---- 17

    private void undoTakesBack() {
        says(UNDO, "Takes back the last action that is remembered.");
        DepotCharge x = Depots.withEmptySlots();
        due("before", 2, x.about(2));
        x.undo();
        due("the run is taken back", 0, x.about(2));
        due("the bus is still there", 1, x.about(0));
        x.undo();
        due("the bus is taken back", 0, x.about(0));
    }

    private void undoTellsHowManyAreLeft() {
        says(UNDO, "Returns how many states are still remembered.");
        DepotCharge y = Depots.busy();
        for (int left = 13; left >= 0; left--) {
            due("of 14", left, y.undo());
        }
        y.set(0, 1);
        due("of one", 0, y.undo());
    }

    private void undoRefuses() {
        says(UNDO, "Throws IllegalStateException if none is remembered");
        refused("in a new object", STATE, DepotCharge::new, x -> x.undo());
        refused("behind restore", STATE, Depots::withNothingToUndo, x -> x.undo());
        refused("behind load", STATE, () -> Depots.loaded("plug,9;run,4"), x -> x.undo());
        refused("behind as many as are remembered", STATE, CallBoundaries::allUndone, x -> x.undo());
    }

    private static DepotCharge allUndone() {
        DepotCharge x = Depots.busy();
        for (int i = 0; i < 14; i++) {
            x.undo();
        }
        return x;
    }

    // ---- 25

    private void saveStores() {
        says(SAVE, "Stores the present state in a save slot.");
        DepotCharge x = Depots.busy();
        String now = Depots.stateOf(x);
        x.save(0);
        x.run(48);
        x.addCharger(50);
        x.battery(1, 400);
        x.restore(0);
        due("the state of then", now, Depots.stateOf(x));
        DepotCharge y = Depots.busy();
        y.save(0);
        due("what is remembered stays", 13, y.undo());
    }

    private void saveSlot() {
        says(SAVE, "slot: 0 or 1");
        within(0, 1, INDEX, Depots::withEmptySlots, (z, slot) -> z.save(slot));
        DepotCharge both = new DepotCharge();
        both.save(0);
        both.set(0, 9);
        both.save(1);
        both.restore(0);
        due("slot 0", 60, both.setting(0));
        both.restore(1);
        due("slot 1", 9, both.setting(0));
    }

    private void saveTellsTheHour() {
        says(SAVE, "Returns the hour of now.");
        due("the first hour", 0, new DepotCharge().save(0));
        due("not the hour of the day", 24, Depots.loaded("run,24").save(0));
        due("the hour 3", 3, Depots.busy().save(1));
    }

    private void saveRefuses() {
        says(SAVE, "Throws IndexOutOfBoundsException if there is no such save slot");
        refused("-1", INDEX, Depots::busy, z -> z.save(-1));
        refused("2", INDEX, Depots::busy, z -> z.save(2));
    }

    // ---- 26

    private void restoreReplaces() {
        says(RESTORE, "Replaces the state by the one in a save slot, and forgets all remembered states.");
        DepotCharge x = Depots.busy();
        x.restore(1);
        due("the hour", 2, x.about(2));
        due("the limit of then", 60, x.setting(0));
        due("nothing to undo", STATE, Checks.told(() -> x.undo()));
        due("the text stays", 12, x.clearText());
    }

    private void restoreKeepsTheSlot() {
        says(RESTORE, "The save slot keeps it.");
        DepotCharge y = Depots.busy();
        y.restore(0);
        String saved = Depots.stateOf(y);
        y.run(48);
        y.addBus(10, 0, 1, 0, 1);
        y.addCharger(50);
        y.set(0, 1);
        y.restore(0);
        due("the state, restored twice", saved, Depots.stateOf(y));
        due("the other slot", 2, y.restore(1));
    }

    private void restoreSlot() {
        says(RESTORE, "slot: 0 or 1");
        within(0, 1, INDEX, Depots::busy, (z, slot) -> z.restore(slot));
        due("slot 0", 0, Depots.busy().restore(0));
        due("slot 1", 2, Depots.busy().restore(1));
    }

    private void restoreTellsTheHour() {
        says(RESTORE, "Returns the hour of now then.");
        DepotCharge day = Depots.loaded("run,24");
        day.save(0);
        day.run(5);
        due("not the hour of the day", 24, day.restore(0));
        due("the first hour", 0, Depots.busy().restore(0));
    }

    private void restoreRefusesSlots() {
        says(RESTORE, "Throws IndexOutOfBoundsException if there is no such save slot");
        refused("-1", INDEX, Depots::busy, x -> x.restore(-1));
        refused("2", INDEX, Depots::busy, x -> x.restore(2));
    }

    private void restoreRefusesEmptySlots() {
        says(RESTORE, "Throws IllegalStateException if nothing has been saved in it since the last load");
        refused("never, slot 0", STATE, Depots::withEmptySlots, x -> x.restore(0));
        refused("never, slot 1", STATE, Depots::withEmptySlots, x -> x.restore(1));
        refused("in the other one", STATE, CallBoundaries::savedInSlot1, x -> x.restore(0));
        refused("before the load, slot 0", STATE, CallBoundaries::loadedAgain, x -> x.restore(0));
        refused("before the load, slot 1", STATE, CallBoundaries::loadedAgain, x -> x.restore(1));
        DepotCharge y = loadedAgain();
        y.save(1);
        due("since the load", 5, y.restore(1));
        DepotCharge z = Depots.withBadText();
        due("a load that is refused", STATE, Checks.told(() -> z.load()));
        due("leaves the slots", 0, z.restore(0));
    }

    private static DepotCharge savedInSlot1() {
        DepotCharge x = Depots.withEmptySlots();
        x.save(1);
        return x;
    }

    private static DepotCharge loadedAgain() {
        DepotCharge x = Depots.busy();
        x.load();
        x.run(1);
        return x;
    }
}
