/** The boundary cases of what the Terms say of AN HOUR. */
final class HourBoundaries extends Boundaries {
    private static final String TERMS = "Terms";

    HourBoundaries(Checks checks, Document document) {
        super(checks, document);
    }

    @Override
    void runAll() {
        asksNothing(TERMS, "AN HOUR When an hour goes by, this happens:");
        comesBack();
        missesItsRoute();
        goesOut();
        wearsByThree();
        wearsByTwoOrOne();
        wearsOut();
        getsSmaller();
        chargeOfASmallerBattery();
        onlyThoseThatWant();
        inWant();
        wantingByNight();
        fewestHoursFirst();
        mostLackFirst();
        othersByTheirNumbers();
        asManyAsThereAreChargers();
        nothingLeftOfTheLimit();
        powerOfTheCharger();
        lackingUpToTheSize();
        leftOfTheLimit();
        priceOfThisHour();
        nextHour();
    }

    // ---- 1 and 2

    private void comesBack() {
        says(TERMS, "1. Each bus that is out, and comes back at this hour of the day, is in the depot.");
        outFor(0, 1, 1);
        outFor(0, 23, 23);
        outFor(23, 0, 1);
        outFor(22, 3, 5);
        DepotCharge x = Depots.loaded("bus,100,100,10,0,2;plug,50;run,1");
        due("units in the hour before it comes back", 0, x.bus(0, 7));
        due("charger in the hour before it comes back", NONE, x.bus(0, 8));
        x.run(1);
        due("is out until that hour goes by", 1, x.bus(0, 6));
        due("units in the hour in which it comes back", 10, x.bus(0, 7));
        due("charger in the hour in which it comes back", 0, x.bus(0, 8));
    }

    private void outFor(int leaves, int back, int hours) {
        DepotCharge x = new DepotCharge();
        x.addBus(100, 100, 10, leaves, back);
        if (leaves > 0) {
            x.run(leaves);
        }
        String name = leaves + " to " + back;
        due(name + ", before it leaves", 0, x.bus(0, 6));
        for (int i = 0; i < hours; i++) {
            x.run(1);
            due(name + ", out when it is the hour " + x.about(2), 1, x.bus(0, 6));
        }
        x.run(1);
        due(name + ", back", 0, x.bus(0, 6));
        due(name + ", gone once", 1, x.about(6));
    }

    private void missesItsRoute() {
        says(TERMS, "2. Each other bus (ascending) that is in the depot, and leaves at this hour of the day: if its"
            + " charge is less than its need, the route is missed, and it stays;");
        DepotCharge x = Depots.loaded("bus,100,59,60,1,9;bus,100,60,60,1,9;bus,100,61,60,1,9;run,1");
        due("nothing is missed in the hour before", 0, x.about(5));
        due("nobody is gone in the hour before", 0, x.about(6));
        x.run(1);
        due("one less than the need: missed", 1, x.about(5));
        due("one less than the need: stays", 0, x.bus(0, 6));
        due("one less than the need: keeps its charge", 59, x.bus(0, 1));
        due("one less than the need: does not wear", 0, x.bus(0, 5));
        due("the need and more: gone", 2, x.about(6));
        due("the need: out", 1, x.bus(1, 6));
        due("one more than the need: out", 1, x.bus(2, 6));
        due("one is paid for", 100, x.about(3));
        x.run(1);
        due("nothing is missed in the hour behind it", 1, x.about(5));
    }

    private void goesOut() {
        says(TERMS, "otherwise it is out, its charge is less by its need, and its battery wears:");
        DepotCharge x = Depots.loaded("bus,100,60,60,0,9;bus,100,61,60,0,9;bus,400,400,400,0,9;bus,10,1,1,0,9;run,1");
        due("with the need", 0, x.bus(0, 1));
        due("with one more", 1, x.bus(1, 1));
        due("with the greatest need", 0, x.bus(2, 1));
        due("with the least need", 0, x.bus(3, 1));
        for (int b = 0; b < 4; b++) {
            due("out: " + b, 1, x.bus(b, 6));
        }
        due("its battery wears", 2, x.bus(0, 5));
    }

    private void wears(int size, int need, int due) {
        due(need + " of " + size, due, Depots.left(99, size, need).bus(0, 5));
    }

    /** The wear of a bus that is not full when it leaves: its size counts, not its charge. */
    private void wearsWith(int charge, int need, int due) {
        DepotCharge x = new DepotCharge();
        x.addBus(100, charge, need, 0, 1);
        x.run(1);
        due(need + " of 100, with a charge of " + charge, due, x.bus(0, 5));
    }

    private void wearsByThree() {
        says(TERMS, "the wear grows by 3 if 100 times its need is at least 80 times its size,");
        wears(100, 80, 3);
        wears(100, 79, 2);
        wears(10, 8, 3);
        wears(10, 7, 2);
        wears(11, 9, 3);
        wears(11, 8, 2);
        wears(399, 320, 3);
        wears(399, 319, 2);
        wears(400, 320, 3);
        wears(400, 319, 2);
        wears(400, 400, 3);
        wears(10, 10, 3);
        wearsWith(80, 80, 3);
        wearsWith(79, 79, 2);
    }

    private void wearsByTwoOrOne() {
        says(TERMS, "otherwise by 2 if that is at least 50 times its size, otherwise by 1.");
        wears(100, 50, 2);
        wears(100, 49, 1);
        wears(10, 5, 2);
        wears(10, 4, 1);
        wears(11, 6, 2);
        wears(11, 5, 1);
        wears(399, 200, 2);
        wears(399, 199, 1);
        wears(400, 200, 2);
        wears(400, 199, 1);
        wears(400, 1, 1);
        wearsWith(50, 50, 2);
        wearsWith(49, 49, 1);
    }

    private void wearsOut() {
        says(TERMS, "If the wear is at least setting 4 then, it becomes less by setting 4 once,");
        due("3 with 4", 3, Depots.left(4, 100, 80).bus(0, 5));
        due("3 with 4, size", 100, Depots.left(4, 100, 80).bus(0, 0));
        due("3 with 3", 0, Depots.left(3, 100, 80).bus(0, 5));
        due("3 with 3, size", 99, Depots.left(3, 100, 80).bus(0, 0));
        due("3 with 2", 1, Depots.left(2, 100, 80).bus(0, 5));
        due("3 with 2, size", 99, Depots.left(2, 100, 80).bus(0, 0));
        due("3 with 1, once", 2, Depots.left(1, 100, 80).bus(0, 5));
        due("3 with 1, size once", 99, Depots.left(1, 100, 80).bus(0, 0));
        due("2 with 2", 0, Depots.left(2, 100, 50).bus(0, 5));
        due("1 with 1", 0, Depots.left(1, 100, 1).bus(0, 5));
        due("1 with 2", 1, Depots.left(2, 100, 1).bus(0, 5));
        DepotCharge x = Depots.loaded("set,4,99;bus,400,400,320,0,1;plug,50");
        for (int day = 0; day < 32; day++) {
            x.run(24);
        }
        due("96 with 99", 96, x.bus(0, 5));
        due("96 with 99, size", 400, x.bus(0, 0));
        x.run(1);
        due("99 with 99", 0, x.bus(0, 5));
        due("99 with 99, size", 399, x.bus(0, 0));
    }

    private void getsSmaller() {
        says(TERMS, "and the size 1 less, but not less than 10");
        due("from 400", 399, Depots.left(1, 400, 1).bus(0, 0));
        due("from 12", 11, Depots.left(1, 12, 1).bus(0, 0));
        due("from 11", 10, Depots.left(1, 11, 1).bus(0, 0));
        due("from 10", 10, Depots.left(1, 10, 1).bus(0, 0));
        due("from 10, the wear", 0, Depots.left(1, 10, 1).bus(0, 5));
    }

    private void chargeOfASmallerBattery() {
        says(TERMS, "(and a charge that is above the size becomes the size).");
        // A route uses 1 at least, so that a charge can come up to the smaller size, but not above it.
        due("the charge is the smaller size", 99, Depots.left(1, 100, 1).bus(0, 1));
        due("the smaller size", 99, Depots.left(1, 100, 1).bus(0, 0));
        due("the charge is below the smaller size", 98, Depots.left(1, 100, 2).bus(0, 1));
        due("the size stays 10", 9, Depots.left(1, 10, 1).bus(0, 1));
    }

    // ---- 3

    /** A depot by day, in the hour 0, with a charger. */
    private static DepotCharge byDay(int power) {
        DepotCharge x = new DepotCharge();
        x.set(5, 12);
        x.addCharger(power);
        return x;
    }

    private void onlyThoseThatWant() {
        says(TERMS, "3. The buses in the depot are charged that want it.");
        DepotCharge x = Depots.loaded("set,5,12;bus,100,60,60,0,9;bus,100,60,60,1,9;plug,50;run,1");
        due("out, though below its need", NONE, x.bus(0, 8));
        due("out: no units", 0, x.bus(0, 7));
        due("leaves in this hour, so it would be out", NONE, x.bus(1, 8));
        due("nobody is charged", 0, x.run(1));
    }

    private void wants(String name, int size, int charge, int need, int units) {
        DepotCharge x = byDay(50);
        x.addBus(size, charge, need, 5, 6);
        due(name + ", units", units, x.bus(0, 7));
        due(name + ", charger", units > 0 ? 0 : NONE, x.bus(0, 8));
        due(name + ", run", units, x.run(1));
    }

    private void inWant() {
        says(TERMS, "A bus wants it in want if its charge is less than its need, and also less than its size;");
        wants("one below the need", 100, 59, 60, 41);
        wants("at the need", 100, 60, 60, 0);
        wants("one above the need", 100, 61, 60, 0);
        wants("one below the size, far below the need", 100, 99, 400, 1);
        wants("at the size, far below the need", 100, 100, 400, 0);
        wants("one below both", 100, 99, 100, 1);
        wants("at both", 100, 100, 100, 0);
        wants("empty, with the least need", 10, 0, 1, 10);
        // Whatever it lacks, and however soon it leaves, a bus that is in want goes ahead of one that is not.
        for (int lack = 1; lack <= 400; lack++) {
            aheadOfOthers(lack, 1);
            aheadOfOthers(lack, 0);
        }
    }

    private void aheadOfOthers(int lack, int leaves) {
        DepotCharge x = Depots.loaded("bus,400,399,1,12,13;plug,50");
        x.addBus(400, 0, lack, leaves, 13);
        due("lacking " + lack + ", leaves at " + leaves, 1, x.charger(0, 2));
    }

    private void wantsByNight(String name, int firstHour, int charge, int units) {
        DepotCharge x = new DepotCharge();
        x.set(5, firstHour);
        x.addCharger(50);
        x.addBus(100, charge, 60, 5, 6);
        due(name + ", units", units, x.bus(0, 7));
        due(name + ", charger", units > 0 ? 0 : NONE, x.bus(0, 8));
    }

    private void wantingByNight() {
        says(TERMS, "otherwise, by night, if its charge is less than its size.");
        wantsByNight("one below the size", 0, 99, 1);
        wantsByNight("at the size", 0, 100, 0);
        wantsByNight("at the need", 0, 60, 40);
        wantsByNight("in the last hour of the night", 17, 99, 1);
        wantsByNight("in the hour behind the night", 16, 99, 0);
        wantsByNight("in the hour before the night", 1, 99, 0);
    }

    /** The bus that is at the only charger, of two empty ones with these needs and hours of leaving, by day. */
    private void first(int due, int need0, int leaves0, int need1, int leaves1) {
        DepotCharge x = byDay(50);
        x.addBus(400, 0, need0, leaves0, (leaves0 + 12) % 24);
        x.addBus(400, 0, need1, leaves1, (leaves1 + 12) % 24);
        String name = "need " + need0 + " at " + leaves0 + ", need " + need1 + " at " + leaves1;
        due(name, due, x.charger(0, 2));
        due(name + ", the other one", NONE, x.bus(1 - due, 8));
    }

    private void fewestHoursFirst() {
        says(TERMS, "Those in want come first, by the hours until they leave next"
            + " (1 to 24; 24 if they leave at this hour of the day), the fewest first,");
        first(1, 400, 2, 1, 1);
        first(0, 1, 1, 400, 2);
        first(1, 400, 23, 1, 22);
        first(1, 400, 0, 1, 23);
        first(0, 1, 23, 400, 0);
        first(1, 400, 0, 1, 1);
        // The one that leaves an hour sooner and lacks 1 goes ahead of the one that lacks 400, in each hour.
        for (int hour = 1; hour < 24; hour++) {
            first(1, 400, (hour + 1) % 24, 1, hour);
            first(0, 1, hour, 400, (hour + 1) % 24);
        }
        DepotCharge x = byDay(50);
        x.addBus(400, 0, 1, 1, 12);
        x.addBus(400, 0, 1, 23, 12);
        x.addBus(400, 0, 1, 0, 12);
        due("leaves at the next hour", 1, x.bus(0, 9));
        due("leaves in a day but one hour", 23, x.bus(1, 9));
        due("leaves at this hour", 24, x.bus(2, 9));
        DepotCharge late = Depots.loaded("set,5,0;run,23;bus,400,0,400,1,12;bus,400,0,1,0,12;plug,9");
        due("across midnight", 1, late.charger(0, 2));
    }

    private void mostLackFirst() {
        says(TERMS, "of several the one that lacks most units up to its need (its need less its charge),"
            + " then the lowest;");
        first(1, 50, 5, 51, 5);
        first(0, 50, 5, 50, 5);
        first(0, 51, 5, 50, 5);
        first(1, 1, 5, 400, 5);
        first(0, 400, 5, 1, 5);
        first(0, 400, 0, 400, 0);
        firstOf("lacks 51 with less need", 1, 400, 50, 100, 400, 9, 60);
        firstOf("lacks 50 with less need", 0, 400, 50, 100, 400, 10, 60);
        firstOf("lacks more up to the size", 1, 400, 0, 50, 60, 0, 51);
        firstOf("lacks more than there is room for", 0, 20, 0, 100, 400, 0, 99);
    }

    /** As first(), of two buses with these sizes, charges and needs. */
    private void firstOf(String name, int due, int size0, int charge0, int need0, int... other) {
        DepotCharge x = byDay(50);
        x.addBus(size0, charge0, need0, 5, 12);
        x.addBus(other[0], other[1], other[2], 5, 12);
        due(name, due, x.charger(0, 2));
    }

    private void othersByTheirNumbers() {
        says(TERMS, "behind them the others, by their numbers.");
        DepotCharge x = Depots.loaded(
            "bus,100,60,60,9,12;bus,100,10,10,1,12;bus,100,59,60,0,12;plug,30;plug,20;plug,10");
        due("in want with the most hours and the least lack", 2, x.charger(0, 2));
        due("the lower one of the others", 0, x.charger(1, 2));
        due("the higher one, though it leaves sooner, and has less", 1, x.charger(2, 2));
    }

    /** A depot by day with so many chargers of a power, and so many empty buses with a size of 100. */
    private static DepotCharge row(int chargers, int power, int buses) {
        DepotCharge x = new DepotCharge();
        x.set(5, 12);
        for (int c = 0; c < chargers; c++) {
            x.addCharger(power);
        }
        for (int b = 0; b < buses; b++) {
            x.addBus(100, 0, 100, 5, 12);
        }
        return x;
    }

    private void asManyAsThereAreChargers() {
        says(TERMS, "The first one is at the first charger in the order of the chargers, the second one at the second,"
            + " and so on, as long as there are chargers");
        due("no charger", NONE, row(0, 10, 1).bus(0, 8));
        due("no charger: no units", 0, row(0, 10, 1).run(1));
        for (int chargers = 1; chargers <= 5; chargers++) {
            DepotCharge x = row(chargers, 10, 6);
            for (int b = 0; b < 6; b++) {
                due(chargers + " chargers, bus " + b, b < chargers ? b : NONE, x.bus(b, 8));
            }
            due(chargers + " chargers, units", 10 * chargers, x.run(1));
        }
        DepotCharge few = row(5, 10, 4);
        due("the last bus", 3, few.charger(3, 2));
        due("no bus is left for the last charger", NONE, few.charger(4, 2));
        DepotCharge none = row(5, 10, 0);
        due("no bus at all", NONE, none.charger(0, 2));
        DepotCharge all = row(5, 10, 8);
        due("of eight buses, the fifth", 4, all.bus(4, 8));
        due("of eight buses, the sixth", NONE, all.bus(5, 8));
        due("of eight buses, the last", NONE, all.bus(7, 8));
    }

    private void nothingLeftOfTheLimit() {
        says(TERMS, "(also if nothing is left of the limit for it).");
        atTheSecond(10, 0);
        atTheSecond(11, 1);
        atTheSecond(9, 0);
        DepotCharge x = row(1, 10, 1);
        x.set(0, 0);
        due("no limit at all", 0, x.bus(0, 8));
        due("no limit at all: no units", 0, x.bus(0, 7));
        due("no limit at all: the bus at the charger", 0, x.charger(0, 2));
        due("no limit at all: run", 0, x.run(1));
    }

    private void atTheSecond(int limit, int units) {
        DepotCharge x = row(2, 10, 2);
        x.set(0, limit);
        due("limit " + limit + ", the second one's charger", 1, x.bus(1, 8));
        due("limit " + limit + ", the second one's units", units, x.bus(1, 7));
        due("limit " + limit + ", the bus at the second charger", 1, x.charger(1, 2));
    }

    private void powerOfTheCharger() {
        says(TERMS, "In this order each gets as many units as the power of its charger,");
        due("the least power", 1, row(1, 1, 1).run(1));
        due("the greatest power", 50, row(1, 50, 1).run(1));
        DepotCharge x = row(1, 10, 2);
        x.addCharger(20);
        due("the first one gets the stronger", 20, x.bus(0, 7));
        due("the second one gets the weaker", 10, x.bus(1, 7));
    }

    private void lackingUpToTheSize() {
        says(TERMS, "but not more than are lacking up to its size,");
        int[] charges = {81, 80, 79};
        int[] units = {19, 20, 20};
        for (int i = 0; i < 3; i++) {
            DepotCharge x = byDay(20);
            x.addBus(100, charges[i], 100, 5, 12);
            due("with " + charges[i], units[i], x.bus(0, 7));
            due("with " + charges[i] + ", run", units[i], x.run(1));
            due("with " + charges[i] + ", then", charges[i] + units[i], x.bus(0, 1));
        }
    }

    private void leftOfTheLimit() {
        says(TERMS, "and not more than is left of the limit of the site (setting 0).");
        int[] limits = {0, 1, 9, 10, 11, 19, 20, 21, 250};
        int[] firsts = {0, 1, 9, 10, 10, 10, 10, 10, 10};
        int[] seconds = {0, 0, 0, 0, 1, 9, 10, 10, 10};
        for (int i = 0; i < limits.length; i++) {
            DepotCharge x = row(2, 10, 2);
            x.set(0, limits[i]);
            due("limit " + limits[i] + ", first", firsts[i], x.bus(0, 7));
            due("limit " + limits[i] + ", second", seconds[i], x.bus(1, 7));
            due("limit " + limits[i] + ", run", firsts[i] + seconds[i], x.run(1));
        }
        DepotCharge x = row(5, 50, 5);
        x.set(0, 250);
        due("the greatest limit is as much as five chargers give", 250, x.coming(1, 1));
        x.set(0, 249);
        due("one less", 249, x.coming(1, 1));
        due("one less: the last one lacks it", 49, x.bus(4, 7));
    }

    private void priceOfThisHour() {
        says(TERMS, "What is charged is paid, by the price of this hour for a unit.");
        DepotCharge x = Depots.loaded("set,5,1;bus,400,0,400,23,12;plug,10");
        due("in the hour before the night", 50, x.coming(1, 0));
        x.run(1);
        due("in its first hour", 20, x.coming(1, 0));
        x.run(7);
        due("in its last hour", 20, x.coming(1, 0));
        x.run(1);
        due("in the hour behind it", 50, x.coming(1, 0));
        due("paid so far", 210, x.about(3));
        int[] prices = {0, 1, 99};
        for (int price : prices) {
            x.set(1, price);
            due("price " + price, 10 * price, x.coming(1, 0));
        }
        due("what is paid stays paid", 210, x.about(3));
    }

    private void nextHour() {
        says(TERMS, "Then the next hour begins.");
        DepotCharge x = new DepotCharge();
        x.run(1);
        due("behind one hour", 1, x.about(2));
        x.run(48);
        due("behind 49 hours", 49, x.about(2));
    }
}
