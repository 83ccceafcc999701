/** The boundary cases of the promises 18 to 24: what would be, scripts, simulations. */
final class ForesightBoundaries extends Boundaries {
    private static final String COMING = "Promise 18";
    private static final String FIRST_MISSED = "Promise 19";
    private static final String LEAST_LIMIT = "Promise 20";
    private static final String BEST_NIGHT = "Promise 21";
    private static final String IF_PLUGGED = "Promise 22";
    private static final String SCRIPT = "Promise 23";
    private static final String SIMULATE = "Promise 24";

    private static final long FACTOR = 6364136223846793005L;
    private static final long SUMMAND = 1442695040888963407L;

    ForesightBoundaries(Checks checks, Document document) {
        super(checks, document);
    }

    @Override
    void runAll() {
        comingHours();
        comingNumbers();
        comingIfNothingElseIsDone();
        comingRefuses();
        firstMissedBus();
        firstMissedHour();
        firstMissedRefuses();
        leastLimitHours();
        leastLimit();
        leastLimitRefuses();
        bestNightHours();
        bestNight();
        bestNightRefuses();
        pluggedPower();
        pluggedHours();
        plugged();
        pluggedRefusesArguments();
        pluggedRefusesASixth();

        scriptOnACopy();
        scriptGroups();
        scriptRuns();
        scriptPutsBatteries();
        scriptSets();
        scriptAddsChargers();
        scriptAsksForCharge();
        scriptAsksForOut();
        scriptAsksForMissed();
        scriptAsksForPlaces();
        scriptAsksForGone();
        scriptFailsWhereMethodsThrow();
        scriptFailsWithoutBusOrCharger();
        scriptFailsOtherwise();
        scriptNumbersAreDecimal();
        scriptCount();
        scriptDigits();
        scriptTellsWhichFails();
        scriptRefuses();

        simulateOnACopy();
        simulateNumbers();
        simulateBus();
        simulateRoute();
        simulateBattery();
        simulateLimit();
        simulateRun();
        simulateLeavesOut();
        simulateSeed();
        simulateTurns();
        simulateTells();
        simulateRefuses();
    }

    // ---- 18

    /** Its bus leaves in the last hour of each day, and comes back in the hour before. */
    private static DepotCharge leavesLast(int charge, int need) {
        DepotCharge x = new DepotCharge();
        x.addBus(400, charge, need, 23, 22);
        return x;
    }

    private void comingHours() {
        asksNothing(COMING, "Tells what hours to come bring.");
        says(COMING, "n: 1 to 72: so many hours, from now on");
        within(1, 72, ARGUMENT, Depots::busy, (x, n) -> x.coming(n, 0));
        DepotCharge x = leavesLast(400, 1);
        due("the hour 23 is not among 23 hours", 0, x.coming(23, 3));
        due("the hour 23 is among 24 hours", 1, x.coming(24, 3));
        due("the hour 71 is not among 71 hours", 2, x.coming(71, 3));
        due("the hour 71 is among 72 hours", 3, x.coming(72, 3));
        x.run(23);
        due("the first hour is that of now", 1, x.coming(1, 3));
        x.run(1);
        due("the hour before is not among them", 0, x.coming(23, 3));
        due("the hour 95 is among 72 hours from 24 on", 3, x.coming(72, 3));
    }

    private void coming(DepotCharge x, int n, int paid, int units, int missed, int gone) {
        int[] due = {paid, units, missed, gone};
        for (int what = 0; what <= 3; what++) {
            due("in the hour " + x.about(2) + ", number " + what + " of " + n + " hours", due[what], x.coming(n, what));
        }
    }

    private void comingNumbers() {
        says(COMING, "what: 0: what is paid in them; 1: the units that are charged in them; 2: the routes"
            + " that are missed"
            + " in them; 3: the routes that are gone in them");
        DepotCharge x = Depots.loaded("bus,50,0,50,0,12;plug,10");
        coming(x, 1, 120, 10, 1, 0);
        coming(x, 2, 140, 20, 1, 0);
        coming(x, 24, 200, 50, 1, 0);
        coming(x, 25, 200, 50, 1, 1);
        x.run(1);
        coming(x, 1, 20, 10, 0, 0);
        coming(x, 4, 80, 40, 0, 0);
        coming(x, 5, 80, 40, 0, 0);
        x.run(24);
        coming(x, 1, 0, 0, 0, 0);
        due("without a bus", 0, new DepotCharge().coming(72, 0));
    }

    private void comingIfNothingElseIsDone() {
        says(COMING, "Returns that number, if nothing else is done.");
        for (int n = 1; n <= 48; n++) {
            DepotCharge x = Depots.busy();
            int before = x.about(3);
            int paid = x.coming(n, 0);
            int units = x.coming(n, 1);
            due("units of " + n + " hours", units, x.run(n));
            due("paid in " + n + " hours", paid, x.about(3) - before);
        }
        changesNothing("coming", Depots::busy, x -> x.coming(72, 0));
    }

    private void comingRefuses() {
        says(COMING, "Throws IllegalArgumentException if n is out of range, or what is not 0 to 3");
        refused("n 0", ARGUMENT, Depots::busy, x -> x.coming(0, 0));
        refused("n 73", ARGUMENT, Depots::busy, x -> x.coming(73, 0));
        within(0, 3, ARGUMENT, Depots::busy, (x, what) -> x.coming(1, what));
        within(0, 3, ARGUMENT, Depots::busy, (x, what) -> x.coming(72, what));
    }

    // ---- 19

    private void firstMissedBus() {
        asksNothing(FIRST_MISSED, "Finds the first missed route.");
        says(FIRST_MISSED, "b: bus");
        DepotCharge x = new DepotCharge();
        for (int b = 0; b < 8; b++) {
            x.addBus(50, b == 3 ? 50 : 0, 1, b, 23);
        }
        due("the first one", 0, x.firstMissed(0));
        due("the last one", 7, x.firstMissed(7));
        due("none, though others miss theirs", NONE, x.firstMissed(3));
    }

    private void firstMissedHour() {
        says(FIRST_MISSED, "Returns the number of the first hour among the next 72 (that of now is the first"
            + " of them) in"
            + " which the route of this bus is missed, if nothing else is done; NONE if there is none.");
        due("that of now is the first of them", 0, Depots.loaded("bus,100,29,30,0,12").firstMissed(0));
        due("the next one", 1, Depots.loaded("bus,100,29,30,1,12").firstMissed(0));
        due("the first of several", 23, leavesLast(29, 30).firstMissed(0));
        due("the last of the 72", 71, leavesLast(89, 30).firstMissed(0));
        due("enough for all three", NONE, leavesLast(90, 30).firstMissed(0));
        DepotCharge x = Depots.loaded("bus,100,90,30,0,12");
        due("the one behind the 72", NONE, x.firstMissed(0));
        x.run(1);
        due("it is among them an hour later", 72, x.firstMissed(0));
        x.run(48);
        x.run(23);
        due("the number of the hour is not that of the day", 72, x.firstMissed(0));
        x.run(1);
        due("what was missed is not among them", 96, x.firstMissed(0));
        due("charged in the hour before", NONE, Depots.loaded("bus,100,0,50,1,12;plug,50").firstMissed(0));
        due("charged one less in the hour before", 1, Depots.loaded("bus,100,0,50,1,12;plug,49").firstMissed(0));
        changesNothing("firstMissed", Depots::busy, y -> y.firstMissed(1));
    }

    private void firstMissedRefuses() {
        says(FIRST_MISSED, "Throws IndexOutOfBoundsException if there is no such bus");
        within(0, 1, INDEX, Depots::busy, (x, b) -> x.firstMissed(b));
        within(0, 7, INDEX, Depots::withEightBuses, (x, b) -> x.firstMissed(b));
        refused("no bus at all", INDEX, DepotCharge::new, x -> x.firstMissed(0));
    }

    // ---- 20

    private void leastLimitHours() {
        asksNothing(LEAST_LIMIT, "Finds out which limit would do.");
        says(LEAST_LIMIT, "n: 1 to 72");
        within(1, 72, ARGUMENT, Depots::busy, (x, n) -> x.leastLimit(n));
        DepotCharge x = leavesLast(89, 30);
        x.addCharger(50);
        due("the hour 71 is not among 71 hours", 0, x.leastLimit(71));
        due("the hour 71 is among 72 hours", 10, x.leastLimit(72));
        DepotCharge y = Depots.loaded("bus,100,0,30,1,12;plug,50");
        due("one hour", 0, y.leastLimit(1));
        due("two hours", 30, y.leastLimit(2));
        y.run(1);
        y.battery(0, 100);
        due("the first hour is that of now", NONE, y.leastLimit(1));
    }

    /** The least limit with which empty buses that leave in the next hour get these needs, at chargers of 50. */
    private void limit(int due, int... needs) {
        DepotCharge x = new DepotCharge();
        StringBuilder told = new StringBuilder("needs");
        for (int need : needs) {
            x.addBus(60, 0, need, 1, 12);
            x.addCharger(50);
            told.append(' ').append(need);
        }
        due(told.toString(), due, x.leastLimit(2));
    }

    private void leastLimit() {
        says(LEAST_LIMIT, "Returns the least limit of the site, a multiple of 10 from 0 to 250, with which no"
            + " route would"
            + " be missed in the next n hours, if nothing else was done; NONE if there is none.");
        due("no bus", 0, new DepotCharge().leastLimit(72));
        due("no lack", 0, Depots.loaded("bus,100,30,30,1,12").leastLimit(2));
        limit(10, 1);
        limit(10, 10);
        limit(20, 11);
        limit(50, 50);
        limit(NONE, 51);
        // The one that lacks most comes first, and gets 50, so that as much must be left for the others.
        limit(250, 50, 50, 50, 50, 50);
        limit(250, 50, 50, 50, 50, 41);
        limit(240, 50, 50, 50, 50, 40);
        limit(210, 50, 50, 50, 50, 1);
        limit(NONE, 50, 50, 50, 50, 51);
        DepotCharge x = Depots.loaded("set,0,0;bus,100,0,30,1,12;plug,50");
        due("the present limit does not count", 30, x.leastLimit(2));
        due("and stays", 0, x.setting(0));
        due("without chargers", NONE, Depots.loaded("bus,100,29,30,1,12").leastLimit(2));
        DepotCharge missed = Depots.loaded("bus,100,0,30,0,12;plug,50;run,1");
        due("what was missed before does not count", 0, missed.leastLimit(23));
        changesNothing("leastLimit", Depots::busy, y -> y.leastLimit(72));
    }

    private void leastLimitRefuses() {
        says(LEAST_LIMIT, "Throws IllegalArgumentException if n is out of range");
        refused("0", ARGUMENT, Depots::busy, x -> x.leastLimit(0));
        refused("73", ARGUMENT, Depots::busy, x -> x.leastLimit(73));
        refused("0, without buses", ARGUMENT, DepotCharge::new, x -> x.leastLimit(0));
    }

    // ---- 21

    /** A depot in this hour, with an empty bus that is in want for so many hours at least, at 10 in each of them. */
    private static DepotCharge wanting(int hour, int hours) {
        DepotCharge x = new DepotCharge();
        if (hour > 0) {
            x.run(hour);
        }
        x.addBus(100, 0, 10 * hours, (hour + 23) % 24, (hour + 22) % 24);
        x.addCharger(10);
        return x;
    }

    private void bestNightHours() {
        asksNothing(BEST_NIGHT, "Finds the cheapest beginning of the night.");
        says(BEST_NIGHT, "n: 1 to 72");
        within(1, 72, ARGUMENT, Depots::busy, (x, n) -> x.bestNight(n));
        due("one hour, of all that begin in time", 5, wanting(12, 9).bestNight(1));
        due("two hours", 6, wanting(12, 9).bestNight(2));
        due("eight hours", 12, wanting(12, 9).bestNight(8));
        // In the depot in the hours 23, 47 and 71 alone: by day it wants 50 in the last of them, by night in each.
        DepotCharge x = Depots.loaded("set,2,1;bus,400,400,120,0,23;plug,50");
        due("the hour 71 is not among 71 hours", 0, x.bestNight(71));
        due("the hour 71 is among 72 hours", 16, x.bestNight(72));
    }

    private void bestNight() {
        says(BEST_NIGHT, "Returns the setting 5, 0 to 23, with which least would be paid in the next n hours,"
            + " if nothing"
            + " else was done; of several the lowest.");
        for (int hour = 0; hour < 24; hour++) {
            due("eight hours from " + hour + " on: one night has all of them", hour, wanting(hour, 9).bestNight(8));
        }
        due("nothing is paid, the lowest of all", 0, new DepotCharge().bestNight(72));
        due("one hour at 7: the lowest begins at 0", 0, wanting(7, 9).bestNight(1));
        due("one hour at 8: the lowest begins at 1", 1, wanting(8, 9).bestNight(1));
        due("one hour at 23: the lowest begins at 16", 16, wanting(23, 9).bestNight(1));
        due("one hour at 0: the lowest begins at 0, though some begin before midnight", 0, wanting(0, 9).bestNight(1));
        due("three hours at 22, across midnight", 17, wanting(22, 9).bestNight(3));
        DepotCharge dear = wanting(0, 9);
        dear.set(1, 2);
        due("day and night cost the same", 0, dear.bestNight(8));
        dear.set(1, 1);
        due("the day is cheaper: the night that begins behind them", 8, dear.bestNight(8));
        due("the setting stays", 22, dear.setting(5));
        changesNothing("bestNight", Depots::busy, x -> x.bestNight(72));
    }

    private void bestNightRefuses() {
        says(BEST_NIGHT, "Throws IllegalArgumentException if n is out of range");
        refused("0", ARGUMENT, Depots::busy, x -> x.bestNight(0));
        refused("73", ARGUMENT, Depots::busy, x -> x.bestNight(73));
    }

    // ---- 22

    private void pluggedPower() {
        asksNothing(IF_PLUGGED, "Tells what one more charger would bring.");
        says(IF_PLUGGED, "power: 1 to 50");
        within(1, 50, ARGUMENT, Depots::busy, (x, power) -> x.ifPlugged(power, 72));
        DepotCharge x = Depots.loaded("bus,100,0,50,1,12");
        due("the greatest", 0, x.ifPlugged(50, 2));
        due("one less", 1, x.ifPlugged(49, 2));
        DepotCharge y = Depots.loaded("bus,100,49,50,1,12");
        due("the least", 0, y.ifPlugged(1, 2));
        y.set(0, 0);
        due("the least, without a limit", 1, y.ifPlugged(1, 2));
    }

    private void pluggedHours() {
        says(IF_PLUGGED, "n: 1 to 72");
        within(1, 72, ARGUMENT, Depots::busy, (x, n) -> x.ifPlugged(50, n));
        DepotCharge x = leavesLast(89, 30);
        x.set(0, 0);
        due("the hour 71 is not among 71 hours", 0, x.ifPlugged(50, 71));
        due("the hour 71 is among 72 hours", 1, x.ifPlugged(50, 72));
        DepotCharge y = Depots.loaded("bus,100,0,50,0,12");
        due("one hour", 1, y.ifPlugged(50, 1));
        due("another day", 1, y.ifPlugged(50, 25));
    }

    private void plugged() {
        says(IF_PLUGGED, "Returns coming(n, 2) behind addCharger(power).");
        for (int power = 1; power <= 50; power++) {
            DepotCharge x = Depots.loaded("bus,100,0,90,4,9;bus,100,0,90,4,9;bus,60,0,45,5,8;plug,20");
            int told = x.ifPlugged(power, 72);
            x.addCharger(power);
            due("power " + power, x.coming(72, 2), told);
        }
        DepotCharge x = Depots.loaded("bus,100,0,30,0,12;run,1");
        due("what was missed before does not count", 0, x.ifPlugged(1, 1));
        changesNothing("ifPlugged", Depots::busy, y -> y.ifPlugged(50, 72));
    }

    private void pluggedRefusesArguments() {
        says(IF_PLUGGED, "Throws IllegalArgumentException if an argument is out of range");
        refused("power 0", ARGUMENT, Depots::busy, x -> x.ifPlugged(0, 1));
        refused("power 51", ARGUMENT, Depots::busy, x -> x.ifPlugged(51, 1));
        refused("n 0", ARGUMENT, Depots::busy, x -> x.ifPlugged(1, 0));
        refused("n 73", ARGUMENT, Depots::busy, x -> x.ifPlugged(1, 73));
    }

    private void pluggedRefusesASixth() {
        says(IF_PLUGGED, "Throws IllegalStateException if there are 5");
        refused("five", STATE, Depots::withFiveChargers, x -> x.ifPlugged(1, 1));
        DepotCharge four = Depots.withFiveChargers();
        four.undo();
        due("four", four.coming(1, 2), four.ifPlugged(1, 1));
    }

    // ---- 23

    /** A charge of 60 and a need of 20 both buses have, or 0: the bus 0 leaves in the hour 1, the bus 1 misses then. */
    private static DepotCharge forScripts() {
        return Depots.loaded("bus,100,60,20,1,5;bus,100,0,20,1,5;plug,10");
    }

    /** A script of as many groups as there are: which of them fails first. */
    private void script(int due, int... groups) {
        due("script " + told(groups), due, forScripts().runScript(groups.length, number(groups)));
    }

    private static long number(int... groups) {
        long number = 0;
        for (int group : groups) {
            number = 100000 * number + group;
        }
        return number;
    }

    private static String told(int... groups) {
        StringBuilder all = new StringBuilder();
        for (int group : groups) {
            all.append(' ').append(100000 + group).deleteCharAt(all.length() - 6);
        }
        return all.toString().trim();
    }

    private void scriptOnACopy() {
        says(SCRIPT, "Runs a script on a copy of the state.");
        int[][] scripts = {{10048}, {21100}, {30007}, {40050}, {50000}, {70000}, {81100}, {90000}, {0},
            {10001, 21100, 40001}};
        for (int[] groups : scripts) {
            changesNothing(told(groups), Depots::busy, x -> x.runScript(groups.length, number(groups)));
        }
        DepotCharge x = forScripts();
        due("once", NONE, x.runScript(2, number(10002, 90001)));
        due("a second time from the same state", NONE, x.runScript(2, number(10002, 90001)));
        due("not from where the first one ended", 0, x.runScript(1, 90001));
    }

    private void scriptGroups() {
        says(SCRIPT, "A script has 1 to 3 commands; each is a group of five decimal digits d1 to d5, and the"
            + " first command"
            + " is the highest group of the number (with zeros before it, if it has fewer digits).");
        script(NONE, 10002, 60000);
        script(0, 60000, 10002);
        script(NONE, 10002, 60000, 90001);
        script(1, 10002, 90002, 60000);
        due("one group of two", 0, forScripts().runScript(2, 10001));
        due("two groups of three", 0, forScripts().runScript(3, 1000210001L));
        due("four digits", 0, forScripts().runScript(1, 1001));
        due("no digit but 0", 0, forScripts().runScript(1, 0));
        due("nine digits of two groups", 0, forScripts().runScript(2, 100010001L));
    }

    private void scriptRuns() {
        says(SCRIPT, "1 0 0 n n: run(nn).");
        script(0, 10000);
        script(NONE, 10001);
        script(NONE, 10048);
        script(0, 10049);
        script(0, 10099);
        // Out when the hour 1 has gone by, back when the hour 5 has.
        script(1, 10001, 60000);
        script(NONE, 10002, 60000);
        script(NONE, 10005, 60000);
        script(1, 10006, 60000);
    }

    private void scriptPutsBatteries() {
        says(SCRIPT, "2 b x x x: battery(b, xxx).");
        script(0, 20009);
        script(NONE, 20010);
        script(NONE, 20400);
        script(0, 20401);
        script(NONE, 21010);
        script(NONE, 20100, 50000);
        script(1, 20100, 50001);
        script(NONE, 20011, 10001, 50010);
    }

    private void scriptSets() {
        says(SCRIPT, "3 w x x x: set(w, xxx).");
        int[] least = {0, 0, 0, 0, 1, 0};
        int[] most = {250, 99, 99, 999, 99, 23};
        for (int what = 0; what <= 5; what++) {
            int group = 30000 + 1000 * what;
            script(NONE, group + least[what]);
            script(NONE, group + most[what]);
            if (most[what] < 999) {
                script(0, group + most[what] + 1);
            }
        }
        script(0, 34000);
        script(0, 36001);
        script(0, 39001);
        script(1, 30000, 51001, 10001);
        script(NONE, 30009, 10001, 51009);
        script(2, 30009, 10001, 51010);
    }

    private void scriptAddsChargers() {
        says(SCRIPT, "4 0 0 p p: addCharger(pp).");
        script(0, 40000);
        script(NONE, 40001);
        script(NONE, 40050);
        script(0, 40051);
        script(NONE, 40050, 10001, 51050);
        script(2, 40050, 10001, 51051);
        DepotCharge four = Depots.loaded("plug,1;plug,1;plug,1;plug,1");
        due("the fifth", NONE, four.runScript(1, 40001));
        due("the sixth", 1, four.runScript(2, number(40001, 40001)));
    }

    private void scriptAsksForCharge() {
        says(SCRIPT, "5 b x x x: succeeds if the charge of the bus b is at least xxx.");
        script(NONE, 50059);
        script(NONE, 50060);
        script(0, 50061);
        script(NONE, 51000);
        script(0, 51001);
        DepotCharge most = Depots.loaded("bus,400,400,1,1,2");
        due("400", NONE, most.runScript(1, 50400));
        due("401", 0, most.runScript(1, 50401));
    }

    private void scriptAsksForOut() {
        says(SCRIPT, "6 b 0 0 0: succeeds if the bus b is out.");
        script(0, 60000);
        script(NONE, 10002, 60000);
        script(1, 10002, 61000);
        script(1, 10006, 60000);
        DepotCharge last = Depots.withEightBuses();
        due("the last bus, in the depot", 0, last.runScript(1, 67000));
        due("the last bus, out", NONE, last.runScript(2, number(10005, 67000)));
    }

    /** A depot in which so many routes were missed, or gone, by three buses. */
    private static DepotCharge after(int days, int charge) {
        DepotCharge x = new DepotCharge();
        for (int b = 0; b < 3; b++) {
            x.addBus(400, charge, 1, 0, 1);
        }
        for (int day = 0; day < days; day++) {
            x.run(24);
        }
        return x;
    }

    private void scriptAsksForMissed() {
        says(SCRIPT, "7 0 0 n n: succeeds if at most nn routes were missed so far.");
        script(NONE, 70000);
        script(NONE, 70001);
        script(1, 10002, 70000);
        script(NONE, 10002, 70001);
        script(NONE, 10002, 70002);
        due("99 of 99", NONE, after(33, 0).runScript(1, 70099));
        due("99 of 98", 0, after(33, 0).runScript(1, 70098));
        due("102 of 99", 0, after(34, 0).runScript(1, 70099));
    }

    private void scriptAsksForPlaces() {
        says(SCRIPT, "8 b c 0 0: succeeds if the bus b would be at the charger c, if the hour went by then.");
        script(NONE, 81000);
        script(0, 80000);
        script(0, 81100);
        // With 20 or more in the hour 0 the bus 1 is not in want any more, and both leave in the hour 1.
        script(NONE, 40005, 81000, 80100);
        script(NONE, 40011, 81100, 80000);
        script(1, 10001, 80000);
        script(NONE, 10001, 81000);
        script(1, 40020, 81000);
        script(2, 40020, 10001, 81100);
        script(1, 30000, 80000);
        script(NONE, 30000, 81000);
    }

    private void scriptAsksForGone() {
        says(SCRIPT, "9 0 0 n n: succeeds if at least nn routes were gone so far.");
        script(NONE, 90000);
        script(0, 90001);
        script(NONE, 10002, 90001);
        script(1, 10002, 90002);
        due("99 of 99", NONE, after(33, 400).runScript(1, 90099));
        due("96 of 96", NONE, after(32, 400).runScript(1, 90096));
        due("97 of 96", 0, after(32, 400).runScript(1, 90097));
        due("99 of 102", NONE, after(34, 400).runScript(1, 90099));
    }

    private void scriptFailsWhereMethodsThrow() {
        says(SCRIPT, "The commands 1 to 4 fail if the method would throw an exception;");
        script(0, 10000);
        script(0, 10049);
        script(0, 20009);
        script(0, 20401);
        script(0, 30251);
        script(0, 34000);
        script(0, 40000);
        script(0, 40051);
        script(1, 10002, 20100);
        script(NONE, 10001, 20100);
        script(NONE, 10006, 20100);
        due("out", 1, forScripts().runScript(2, number(10005, 20100)));
        due("five chargers", 0, Depots.withFiveChargers().runScript(1, 40001));
    }

    private void scriptFailsWithoutBusOrCharger() {
        says(SCRIPT, "commands with buses or chargers that do not exist fail,");
        int[] last = {21100, 51000, 81000};
        int[] behind = {22100, 28100, 29100, 52000, 58000, 59000, 62000, 68000, 69000, 82000, 88000, 89000, 81100,
            81900};
        for (int group : last) {
            script(NONE, group);
        }
        for (int group : behind) {
            script(0, group);
        }
        DepotCharge eight = Depots.withEightBuses();
        due("the bus 7 of eight", NONE, eight.runScript(1, 57007));
        due("the bus 8 of eight", 0, eight.runScript(1, 58000));
        DepotCharge none = new DepotCharge();
        due("no bus at all", 0, none.runScript(1, 50000));
        due("no bus and no charger", 0, none.runScript(1, 80000));
    }

    private void scriptFailsOtherwise() {
        says(SCRIPT, "and so does any other group (also one with another digit where a 0 is written).");
        int[] others = {0, 1, 100, 1000, 9999};
        for (int group : others) {
            script(0, group);
        }
        script(0, 70100);
        due("100 of 102, which can't be written", 0, after(34, 400).runScript(1, 90100));
        due("1000 of 1002, which can't be written", 0, after(334, 400).runScript(1, 91000));
        int[] written = {10001, 40001, 70001, 90000};
        for (int group : written) {
            script(NONE, group);
            for (int digit = 1; digit <= 9; digit++) {
                script(0, group + 100 * digit);
                script(0, group + 1000 * digit);
            }
        }
        for (int digit = 1; digit <= 9; digit++) {
            script(1, 10002, 60000 + digit);
            script(1, 10002, 60000 + 10 * digit);
            script(1, 10002, 60000 + 100 * digit);
            script(0, 81000 + digit);
            script(0, 81000 + 10 * digit);
        }
    }

    private void scriptNumbersAreDecimal() {
        says(SCRIPT, "nn, pp and xxx are decimal numbers.");
        // The hour 12 is 10 hours from the hour 2 on: neither 2 nor 8 nor 16 of them.
        DepotCharge x = Depots.loaded("bus,100,100,1,12,11;run,2");
        due("nn is ten", 1, x.runScript(2, number(10010, 60000)));
        due("nn is eleven", NONE, x.runScript(2, number(10011, 60000)));
        script(NONE, 40010, 10001, 51010);
        script(2, 40012, 10001, 51013);
        script(NONE, 40012, 10001, 51012);
        script(NONE, 20100, 10010, 50008);
        script(NONE, 20010);
        script(0, 20008);
    }

    private void scriptCount() {
        says(SCRIPT, "n: number of commands, 1 to 3");
        within(1, 3, ARGUMENT, Depots::busy, (x, n) -> x.runScript(n, 10001));
        within(1, 3, ARGUMENT, Depots::busy, (x, n) -> x.runScript(n, 0));
    }

    private void scriptDigits() {
        says(SCRIPT, "script: the commands, a number of at most 5 * n digits (0 or more)");
        due("0", 0, Depots.busy().runScript(1, 0));
        due("five digits", 0, Depots.busy().runScript(1, 99999));
        refused("six digits", ARGUMENT, Depots::busy, x -> x.runScript(1, 100000));
        due("ten digits", 0, Depots.busy().runScript(2, 9999999999L));
        refused("eleven digits", ARGUMENT, Depots::busy, x -> x.runScript(2, 10000000000L));
        due("fifteen digits", 0, Depots.busy().runScript(3, 999999999999999L));
        refused("sixteen digits", ARGUMENT, Depots::busy, x -> x.runScript(3, 1000000000000000L));
        refused("-1", ARGUMENT, Depots::busy, x -> x.runScript(1, -1));
    }

    private void scriptTellsWhichFails() {
        says(SCRIPT, "Returns the index, from 0, of the first command that fails; NONE if all succeed.");
        script(NONE, 10001);
        script(0, 10000);
        script(NONE, 10001, 10001);
        script(0, 10000, 10001);
        script(1, 10001, 10000);
        script(0, 10000, 10000);
        script(NONE, 10001, 10001, 10001);
        script(0, 10000, 10000, 10000);
        script(1, 10001, 10000, 10001);
        script(2, 10001, 10001, 10000);
    }

    private void scriptRefuses() {
        says(SCRIPT, "Throws IllegalArgumentException if n is out of range, or if script is negative or has more than"
            + " 5 * n digits");
        refused("n 0", ARGUMENT, Depots::busy, x -> x.runScript(0, 0));
        refused("n 4", ARGUMENT, Depots::busy, x -> x.runScript(4, 0));
        refused("n 4, with a script that can't be longer", ARGUMENT, Depots::busy, x -> x.runScript(4, Long.MAX_VALUE));
        refused("-1", ARGUMENT, Depots::busy, x -> x.runScript(3, -1));
        refused("-10001", ARGUMENT, Depots::busy, x -> x.runScript(1, -10001));
        refused("the least long", ARGUMENT, Depots::busy, x -> x.runScript(3, Long.MIN_VALUE));
        refused("the greatest long", ARGUMENT, Depots::busy, x -> x.runScript(3, Long.MAX_VALUE));
        refused("2 to the 32, and more", ARGUMENT, Depots::busy, x -> x.runScript(1, (1L << 32) + 10001));
    }

    // ---- 24

    /** The number that undoes a multiplication by FACTOR, as long numbers wrap around. */
    private static long inverse() {
        long inverse = FACTOR;
        for (int i = 0; i < 6; i++) {
            inverse *= 2 - FACTOR * inverse;
        }
        return inverse;
    }

    /** A seed with which r is this in the first turn, and the turns behind it run so many hours each. */
    private static long seed(int r, int... hours) {
        long inverse = inverse();
        for (long low = 0; low < 1000000; low++) {
            long first = ((long) r << 33) + low;
            long x = first;
            boolean found = true;
            for (int i = 0; i < hours.length && found; i++) {
                x = x * FACTOR + SUMMAND;
                int next = (int) (x >>> 33);
                found = next % 8 > 2 && 1 + next / 8 % 9 == hours[i];
            }
            if (found) {
                return (first - SUMMAND) * inverse;
            }
        }
        throw new IllegalStateException("no such seed");
    }

    /** The least r, or the next one behind some, that makes a turn give a bus this route. */
    private static int routeFrom(int from, int b, int need, int leaves, int back) {
        for (int r = from / 8 * 8; r >= 0; r += 8) {
            if (r / 8 % 8 == b && 1 + r / 64 % 99 == need && r / 8192 % 24 == leaves && r / 262144 % 24 == back) {
                return r;
            }
        }
        throw new IllegalStateException("no such route");
    }

    private static int routeTurn(int b, int need, int leaves, int back) {
        return routeFrom(0, b, need, leaves, back);
    }

    private void simulate(String name, int due, String text, int m, long seed) {
        due(name, due, Depots.loaded(text).simulate(seed, m));
    }

    private void simulateOnACopy() {
        says(SIMULATE, "Simulates m turns on a copy of the state.");
        for (int i = 0; i < 20; i++) {
            long seed = 1000003L * i;
            changesNothing("seed " + seed, Depots::busy, x -> x.simulate(seed, 30));
        }
        DepotCharge x = Depots.busy();
        due("a second time from the same state", x.simulate(7, 30), x.simulate(7, 30));
    }

    private void simulateNumbers() {
        says(SIMULATE, "A long x starts as the seed. Each turn first replaces x by x * 6364136223846793005L +"
            + " 1442695040888963407L (with long overflow), and r = (int) (x >>> 33) is computed.");
        // With the greatest r, 2147483647, of a negative x, a turn runs 1 + 268435455 % 9 hours, which is 7.
        simulate("the greatest r, the seventh hour", 1, "bus,10,10,1,6,7", 1, seed(Integer.MAX_VALUE));
        simulate("the greatest r, no eighth hour", 0, "bus,10,10,1,7,8", 1, seed(Integer.MAX_VALUE));
        // With the least r, 0, a turn gives a route with both hours the same, which is left out.
        simulate("the least r, and an hour", 1, "bus,10,10,1,0,1", 2, seed(0, 1));
        // 3 is the least r that runs; 1073741823 is the greatest of an x that is not negative, and runs 8 hours.
        simulate("r is 3", 1, "bus,10,10,1,0,1", 1, seed(3));
        simulate("r is 1073741823, the eighth hour", 1, "bus,10,10,1,7,8", 1, seed(1073741823));
        simulate("r is 1073741823, no ninth hour", 0, "bus,10,10,1,8,9", 1, seed(1073741823));
        for (int i = 0; i < 200; i++) {
            asPlayed(1000003L * i * i * i, 30);
        }
    }

    private void asPlayed(long seed, int m) {
        DepotCharge x = Depots.loaded(
            "bus,100,60,20,1,5;bus,90,0,20,1,5;bus,80,80,70,3,1;bus,60,0,2,7,9;plug,10;run,9");
        int told = x.simulate(seed, m);
        int missed = x.about(5);
        int gone = x.about(6);
        Depots.play(x, seed, m);
        due("seed " + seed + ", " + m + " turns", 1000 * (x.about(5) - missed) + x.about(6) - gone, told);
    }

    private void simulateBus() {
        says(SIMULATE, "b is r / 8 % 8.");
        // A battery for one of eight buses, of which one leaves in this hour: it misses its route if it is that one.
        for (int b = 0; b < 8; b++) {
            for (int leaving = 0; leaving < 8; leaving++) {
                DepotCharge x = new DepotCharge();
                for (int i = 0; i < 8; i++) {
                    x.addBus(50, 50, 50, i == leaving ? 0 : 20, 22);
                }
                due("battery for " + b + ", " + leaving + " leaves", b == leaving ? 1000 : 1,
                    x.simulate(seed(1 + 8 * b, 1), 2));
            }
        }
    }

    private void simulateRoute() {
        says(SIMULATE, "By r % 8: 0: route(b, 1 + r / 64 % 99, r / 8192 % 24, r / 262144 % 24).");
        String text = "bus,400,98,50,12,13";
        simulate("the greatest need but one", 1, text, 2, seed(routeTurn(0, 98, 0, 12), 1));
        simulate("the greatest need", 1000, text, 2, seed(routeTurn(0, 99, 0, 12), 1));
        simulate("the least need", 1, "bus,400,1,50,12,13", 2, seed(routeTurn(0, 1, 0, 12), 1));
        simulate("the least need but one", 1000, "bus,400,1,50,12,13", 2, seed(routeTurn(0, 2, 0, 12), 1));
        int wrapped = routeFrom(64 * 99 * 24 * 24, 0, 1, 0, 12);
        simulate("the least need behind the greatest", 1, "bus,400,1,50,12,13", 2, seed(wrapped, 1));
        simulate("leaves at 0", 1, text, 2, seed(routeTurn(0, 1, 0, 12), 1));
        simulate("leaves at 1, and not at 0", 0, text, 2, seed(routeTurn(0, 1, 1, 12), 1));
        String late = "bus,400,98,50,12,13;run,23";
        simulate("leaves at 23", 1, late, 2, seed(routeTurn(0, 1, 23, 12), 1));
        simulate("leaves at 22, and not at 23", 0, late, 2, seed(routeTurn(0, 1, 22, 12), 1));
        // Back in the hour 23, it gets 50 before it leaves again in the hour 24; back in the hour 22, it gets 100.
        String charged = "bus,400,99,50,12,13;plug,50";
        simulate("back at 23", 1001, charged, 4, seed(routeTurn(0, 99, 0, 23), 9, 9, 9));
        simulate("back at 22", 2, charged, 4, seed(routeTurn(0, 99, 0, 22), 9, 9, 9));
        routesAtTheEndOfAnHour();
        // Back in the hour 24, it is charged once before it leaves again in the hour 25, and 50 are enough for 50.
        simulate("back at 0", 2, "bus,400,50,50,12,13;run,1;plug,50", 4, seed(routeTurn(0, 50, 1, 0), 9, 9, 9));
        simulate("back at 0, with 51", 1001, "bus,400,51,50,12,13;run,1;plug,50", 4,
            seed(routeTurn(0, 51, 1, 0), 9, 9, 9));
    }

    /** The greatest r of an hour at which a bus comes back: 14 * 262144 - 8 is route(7, 23, 15, 13). */
    private void routesAtTheEndOfAnHour() {
        DepotCharge x = new DepotCharge();
        x.run(15);
        for (int b = 0; b < 7; b++) {
            x.addBus(10, 10, 400, 14, 13);
        }
        x.addBus(400, 23, 1, 0, 1);
        x.addCharger(12);
        // Back in the hour 37, it gets 12 twice before it leaves in the hour 39; the seven others miss theirs once.
        due("the last r with which a bus comes back at 13", 7002, x.simulate(seed(14 * 262144 - 8, 9, 9, 9), 4));
    }

    private void simulateBattery() {
        says(SIMULATE, "1: battery(b, 10 + r / 64 % 200).");
        simulate("the greatest size is 209", 1, "bus,400,400,209,5,12;plug,50", 2, seed(1 + 64 * 199, 9));
        simulate("and not 210", 1000, "bus,400,400,210,5,12;plug,50", 2, seed(1 + 64 * 199, 9));
        simulate("the least size is 10", 1, "bus,400,400,10,5,12;plug,50", 2, seed(1, 9));
        simulate("and not 11", 1000, "bus,400,400,11,5,12;plug,50", 2, seed(1, 9));
        simulate("the least size behind the greatest", 1, "bus,400,400,10,5,12;plug,50", 2, seed(1 + 64 * 200, 9));
        simulate("the least size behind the greatest, and not 11", 1000, "bus,400,400,11,5,12;plug,50", 2,
            seed(1 + 64 * 200, 9));
        simulate("the charge is 0", 1000, "bus,400,400,1,0,12", 2, seed(1 + 64 * 199, 1));
    }

    /** Five empty buses that each need 50 in the next hour, at five chargers of 50. */
    private static DepotCharge needing250() {
        DepotCharge x = new DepotCharge();
        for (int i = 0; i < 5; i++) {
            x.addBus(50, 0, 50, 1, 12);
            x.addCharger(50);
        }
        return x;
    }

    private void simulateLimit() {
        says(SIMULATE, "2: set(0, r / 64 % 251).");
        due("250", 5, needing250().simulate(seed(2 + 64 * 250, 9), 2));
        due("249", 1004, needing250().simulate(seed(2 + 64 * 249, 9), 2));
        due("0 behind 250", 5000, needing250().simulate(seed(2 + 64 * 251, 9), 2));
        due("0", 5000, needing250().simulate(seed(2, 9), 2));
        due("50", 4001, needing250().simulate(seed(2 + 64 * 50, 9), 2));
        due("49", 5000, needing250().simulate(seed(2 + 64 * 49, 9), 2));
        due("250 once more", 5, needing250().simulate(seed(2 + 64 * (251 + 250), 9), 2));
    }

    private void simulateRun() {
        says(SIMULATE, "Otherwise: run(1 + r / 8 % 9).");
        for (int kind = 3; kind <= 7; kind++) {
            simulate("by " + kind + ", the ninth hour", 1, "bus,10,10,1,8,9", 1, seed(kind + 8 * 8));
            simulate("by " + kind + ", no tenth hour", 0, "bus,10,10,1,9,10", 1, seed(kind + 8 * 8));
            simulate("by " + kind + ", one hour", 1, "bus,10,10,1,0,9", 1, seed(kind));
            simulate("by " + kind + ", one hour and no second one", 0, "bus,10,10,1,1,9", 1, seed(kind));
            simulate("by " + kind + ", one hour behind nine", 0, "bus,10,10,1,1,9", 1, seed(kind + 8 * 9));
        }
        for (int kind = 0; kind <= 2; kind++) {
            simulate("by " + kind + ", no hour", 0, "bus,10,10,1,0,9", 1, seed(kind + 8 * 7));
        }
    }

    private void simulateLeavesOut() {
        says(SIMULATE, "What would throw an exception is left out.");
        for (int hour = 0; hour < 24; hour++) {
            simulate("a route with both hours " + hour, 1, "bus,10,10,1,0,1", 2, seed(routeTurn(0, 99, hour, hour), 1));
        }
        simulate("a route of the bus behind the last", 1, "bus,10,10,1,0,1", 2, seed(routeTurn(1, 99, 12, 13), 1));
        simulate("a route of the last bus", 0, "bus,10,10,1,0,1", 2, seed(routeTurn(0, 99, 12, 13), 1));
        simulate("a battery of the bus behind the last", 1, "bus,10,10,1,0,1", 2, seed(1 + 8, 1));
        simulate("a battery of the last bus", 1000, "bus,10,10,1,0,1", 2, seed(1, 1));
        // The bus is out from the hour 1 to the hour 12: with the other route it would leave again in the hour 6.
        String out = "bus,100,100,10,0,12;run,1";
        simulate("a route of a bus that is out", 0, out, 2, seed(routeTurn(0, 1, 6, 5), 9));
        // It leaves in the hour 24 again, with its old charge, unless it gets a battery.
        simulate("a battery of a bus that is out", 1, out, 4, seed(1, 9, 9, 9));
        simulate("a battery of a bus that is back", 1000, "bus,100,100,10,0,12;run,13", 4, seed(1, 9, 9, 9));
        simulate("without a bus", 0, "run,1", 30, 1);
    }

    private void simulateSeed() {
        says(SIMULATE, "seed: any long");
        long[] seeds = {0, 1, -1, Long.MAX_VALUE, Long.MIN_VALUE, Long.MIN_VALUE + 1, Integer.MAX_VALUE,
            Integer.MIN_VALUE, 1L << 32, 1L << 33};
        for (long seed : seeds) {
            for (int m = 1; m <= 30; m++) {
                asPlayed(seed, m);
            }
        }
    }

    private void simulateTurns() {
        says(SIMULATE, "m: number of turns, 1 to 30");
        within(1, 30, ARGUMENT, Depots::busy, (x, m) -> x.simulate(1, m));
        simulate("one turn: the hour 0 alone", 0, "bus,10,10,1,1,9", 1, seed(3, 1));
        simulate("two turns: the hour 1 too", 1, "bus,10,10,1,1,9", 2, seed(3, 1));
        int differs = 0;
        for (long seed = 0; seed < 100; seed++) {
            DepotCharge x = Depots.busy();
            differs += x.simulate(seed, 29) == x.simulate(seed, 30) ? 0 : 1;
        }
        due("the turn 30 counts", 1, differs > 0 ? 1 : 0);
    }

    private void simulateTells() {
        says(SIMULATE, "Returns 1000 * (the routes that are missed in them) + (those that are gone in them).");
        simulate("none", 0, "bus,10,10,1,1,9", 1, seed(3));
        simulate("one that is gone", 1, "bus,10,10,1,0,9", 1, seed(3));
        simulate("one that is missed", 1000, "bus,10,0,1,0,9", 1, seed(3));
        simulate("both", 1001, "bus,10,0,1,0,9;bus,10,10,1,0,9", 1, seed(3));
        simulate("those before do not count", 0, "bus,10,0,1,0,9;bus,10,10,1,0,9;run,1", 1, seed(3));
        DepotCharge missing = new DepotCharge();
        DepotCharge going = new DepotCharge();
        for (int b = 0; b < 8; b++) {
            missing.addBus(10, 0, 1, 0, 9);
            going.addBus(10, 10, 1, 0, 9);
        }
        due("all missed", 8000, missing.simulate(seed(3), 1));
        due("all gone", 8, going.simulate(seed(3), 1));
    }

    private void simulateRefuses() {
        says(SIMULATE, "Throws IllegalArgumentException if m is out of range");
        refused("0", ARGUMENT, Depots::busy, x -> x.simulate(1, 0));
        refused("-1", ARGUMENT, Depots::busy, x -> x.simulate(1, -1));
        refused("31", ARGUMENT, Depots::busy, x -> x.simulate(1, 31));
        refused("31, without buses", ARGUMENT, DepotCharge::new, x -> x.simulate(1, 31));
    }
}
