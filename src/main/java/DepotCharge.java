/**
 * A depot of electric buses: who is charged with how much now, what the hours to come cost and miss,
 * which limit would do, what stands on the sign of a bus. Changes can be undone.
 */
public final class DepotCharge {
    /** There is no such result. */
    public static final int NONE = -1;

    private static final int HOURS_OF_DAY = 24;
    private static final int LAST_HOUR_OF_DAY = HOURS_OF_DAY - 1;
    private static final int HOURS_OF_NIGHT = 8;
    private static final int LONGEST_RUN = 48;
    private static final int LONGEST_LOOK = 72;
    private static final int MOST_BUSES = 8;
    private static final int MOST_CHARGERS = 5;
    private static final int LEAST_SIZE = 10;
    private static final int MOST_SIZE = 400;
    private static final int MOST_NEED = 400;
    private static final int MOST_POWER = 50;
    private static final int LONGEST_TEXT = 120;
    private static final int MOST_NUMBERS = 5;
    private static final int MOST_DIGITS = 3;
    private static final int MOST_VALUE = 999;
    private static final int MOST_REMEMBERED = 14;
    private static final int SLOTS = 2;
    private static final int GROUP = 100000;

    private static final int LIMIT = 0;
    private static final int DAY_PRICE = 1;
    private static final int NIGHT_PRICE = 2;
    private static final int MISSED_PRICE = 3;
    private static final int WEAR_LIMIT = 4;
    private static final int NIGHT_START = 5;
    private static final int SETTINGS = 6;
    private static final int[] LEAST_SETTINGS = {0, 0, 0, 0, 1, 0};
    private static final int[] MOST_SETTINGS = {250, 99, 99, 999, 99, 23};
    private static final int[] FIRST_SETTINGS = {60, 5, 2, 100, 20, 22};

    private final Text text = new Text();
    private final Depot now = new Depot();
    private final History history = new History();
    private final Depot[] slots = new Depot[SLOTS];
    private final boolean[] filled = new boolean[SLOTS];

    // Rows to copy the state into, made once, since objects made by every call would fill the room.
    private final Depot trial = new Depot();
    private final Depot preview = new Depot();

    public DepotCharge() {
        for (int slot = 0; slot < slots.length; slot++) {
            slots[slot] = new Depot();
        }
    }

    // ---- text

    public int append(int c) throws IllegalArgumentException, IllegalStateException {
        requireWithin(c, 0, 255);
        if (text.isFull()) {
            throw new IllegalStateException("the text is full");
        }
        return text.put((char) c);
    }

    public int clearText() {
        return text.empty();
    }

    public int errorPosition() {
        return text.findError();
    }

    public int load() throws IllegalStateException {
        if (text.findError() != NONE) {
            throw new IllegalStateException("the text is not a depot");
        }
        now.becomeNew();
        history.forgetAll();
        for (int slot = 0; slot < filled.length; slot++) {
            filled[slot] = false;
        }
        return text.doAllIn(now);
    }

    // ---- what there is

    public int about(int what) throws IllegalArgumentException {
        requireWithin(what, 0, 10);
        switch (what) {
            case 0: return now.busCount;
            case 1: return now.chargerCount;
            case 2: return now.hour;
            case 3: return now.paid;
            case 4: return now.charged;
            case 5: return now.missed;
            case 6: return now.gone;
            case 7: return now.countOut();
            case 8: return now.countLow();
            case 9: return now.isNight() ? 1 : 0;
            default: return now.sumOfCharges();
        }
    }

    public int bus(int b, int what) throws IndexOutOfBoundsException, IllegalArgumentException {
        Bus bus = requireBus(b);
        requireWithin(what, 0, 9);
        switch (what) {
            case 0: return bus.size;
            case 1: return bus.charge;
            case 2: return bus.need;
            case 3: return bus.leaves;
            case 4: return bus.back;
            case 5: return bus.wear;
            case 6: return bus.out ? 1 : 0;
            case 7: return previewOf(now).unitsOf(b);
            case 8: return previewOf(now).chargerOf(b);
            default: return now.hoursUntilLeaving(bus);
        }
    }

    public int charger(int c, int what) throws IndexOutOfBoundsException, IllegalArgumentException {
        if (!now.hasCharger(c)) {
            throw new IndexOutOfBoundsException("no such charger");
        }
        requireWithin(what, 0, 2);
        switch (what) {
            case 0: return now.powerOf(c);
            case 1: return now.placeOf(c);
            default: return previewOf(now).busAtCharger(c);
        }
    }

    public int sign(int b, int i) throws IndexOutOfBoundsException, IllegalArgumentException {
        Bus bus = requireBus(b);
        if (i < 0) {
            throw new IllegalArgumentException("the index is negative");
        }
        StringBuilder sign = signOf(b, bus);
        if (i >= sign.length()) {
            return NONE;
        }
        return sign.charAt(i);
    }

    public int setting(int what) throws IllegalArgumentException {
        requireWithin(what, 0, SETTINGS - 1);
        return now.settingOf(what);
    }

    // ---- actions

    public int addBus(int size, int charge, int need, int leaves, int back)
            throws IllegalArgumentException, IllegalStateException {
        if (!isBus(size, charge, need, leaves, back)) {
            throw new IllegalArgumentException("there can be no such bus");
        }
        if (now.isFullOfBuses()) {
            throw new IllegalStateException("there are as many buses as there can be");
        }
        history.remember(now);
        return now.putBus(size, charge, need, leaves, back);
    }

    public int addCharger(int power) throws IllegalArgumentException, IllegalStateException {
        requireWithin(power, 1, MOST_POWER);
        requireRoomForCharger();
        history.remember(now);
        return now.putCharger(power);
    }

    public int route(int b, int need, int leaves, int back)
            throws IndexOutOfBoundsException, IllegalArgumentException, IllegalStateException {
        Bus bus = requireBus(b);
        if (!isRoute(need, leaves, back)) {
            throw new IllegalArgumentException("there can be no such route");
        }
        requireInDepot(bus);
        history.remember(now);
        int previous = bus.need;
        bus.giveRoute(need, leaves, back);
        return previous;
    }

    public int battery(int b, int size)
            throws IndexOutOfBoundsException, IllegalArgumentException, IllegalStateException {
        Bus bus = requireBus(b);
        requireWithin(size, LEAST_SIZE, MOST_SIZE);
        requireInDepot(bus);
        history.remember(now);
        int previous = bus.size;
        bus.giveBattery(size);
        return previous;
    }

    public int run(int n) throws IllegalArgumentException {
        requireWithin(n, 1, LONGEST_RUN);
        history.remember(now);
        int before = now.charged;
        now.passHours(n);
        return now.charged - before;
    }

    public int set(int what, int v) throws IllegalArgumentException {
        if (!isSetting(what, v)) {
            throw new IllegalArgumentException("there is no such setting, or it can't be so");
        }
        history.remember(now);
        int previous = now.settingOf(what);
        now.change(what, v);
        return previous;
    }

    public int undo() throws IllegalStateException {
        if (history.isEmpty()) {
            throw new IllegalStateException("no state is remembered");
        }
        return history.takeBack(now);
    }

    // ---- what would be

    public int coming(int n, int what) throws IllegalArgumentException {
        requireWithin(n, 1, LONGEST_LOOK);
        requireWithin(what, 0, 3);
        trial.becomeLike(now);
        trial.passHours(n);
        switch (what) {
            case 0: return trial.paid - now.paid;
            case 1: return trial.charged - now.charged;
            case 2: return trial.missed - now.missed;
            default: return trial.gone - now.gone;
        }
    }

    public int firstMissed(int b) throws IndexOutOfBoundsException {
        requireBus(b);
        trial.becomeLike(now);
        for (int i = 0; i < LONGEST_LOOK; i++) {
            if (trial.isMissedNow(b)) {
                return trial.hour;
            }
            trial.passHours(1);
        }
        return NONE;
    }

    public int leastLimit(int n) throws IllegalArgumentException {
        requireWithin(n, 1, LONGEST_LOOK);
        for (int limit = LEAST_SETTINGS[LIMIT]; limit <= MOST_SETTINGS[LIMIT]; limit += 10) {
            if (wouldDo(limit, n)) {
                return limit;
            }
        }
        return NONE;
    }

    public int bestNight(int n) throws IllegalArgumentException {
        requireWithin(n, 1, LONGEST_LOOK);
        int best = 0;
        int least = costOfNight(0, n);
        for (int start = 1; start < HOURS_OF_DAY; start++) {
            int cost = costOfNight(start, n);
            if (cost < least) {
                best = start;
                least = cost;
            }
        }
        return best;
    }

    public int ifPlugged(int power, int n) throws IllegalArgumentException, IllegalStateException {
        requireWithin(power, 1, MOST_POWER);
        requireWithin(n, 1, LONGEST_LOOK);
        requireRoomForCharger();
        trial.becomeLike(now);
        trial.putCharger(power);
        trial.passHours(n);
        return trial.missed - now.missed;
    }

    // ---- scripts, simulations

    public int runScript(int n, long script) throws IllegalArgumentException {
        requireWithin(n, 1, 3);
        if (script < 0 || groupsFrom(script, n) != 0) {
            throw new IllegalArgumentException("the script is negative or too long");
        }
        trial.becomeLike(now);
        for (int i = 0; i < n; i++) {
            int group = (int) (groupsFrom(script, n - 1 - i) % GROUP);
            if (!succeeds(group)) {
                return i;
            }
        }
        return NONE;
    }

    public int simulate(long seed, int m) throws IllegalArgumentException {
        requireWithin(m, 1, 30);
        trial.becomeLike(now);
        long x = seed;
        for (int turn = 0; turn < m; turn++) {
            x = x * 6364136223846793005L + 1442695040888963407L;
            simulateTurn((int) (x >>> 33));
        }
        return 1000 * (trial.missed - now.missed) + (trial.gone - now.gone);
    }

    // ---- save slots

    public int save(int slot) throws IndexOutOfBoundsException {
        requireSlot(slot);
        slots[slot].becomeLike(now);
        filled[slot] = true;
        return now.hour;
    }

    public int restore(int slot) throws IndexOutOfBoundsException, IllegalStateException {
        requireSlot(slot);
        if (!filled[slot]) {
            throw new IllegalStateException("nothing has been saved in this slot");
        }
        now.becomeLike(slots[slot]);
        history.forgetAll();
        return now.hour;
    }

    // ---- what the calls ask first

    private static void requireWithin(int value, int least, int most) {
        if (!isWithin(value, least, most)) {
            throw new IllegalArgumentException("an argument is out of its range");
        }
    }

    private Bus requireBus(int b) {
        Bus bus = now.busAt(b);
        if (bus == null) {
            throw new IndexOutOfBoundsException("no such bus");
        }
        return bus;
    }

    private static void requireInDepot(Bus bus) {
        if (bus.out) {
            throw new IllegalStateException("the bus is out");
        }
    }

    private void requireRoomForCharger() {
        if (now.isFullOfChargers()) {
            throw new IllegalStateException("there are as many chargers as there can be");
        }
    }

    private static void requireSlot(int slot) {
        if (!isWithin(slot, 0, SLOTS - 1)) {
            throw new IndexOutOfBoundsException("no such save slot");
        }
    }

    private static boolean isWithin(int value, int least, int most) {
        return value >= least && value <= most;
    }

    private static boolean isRoute(int need, int leaves, int back) {
        return isWithin(need, 1, MOST_NEED)
            && isWithin(leaves, 0, LAST_HOUR_OF_DAY)
            && isWithin(back, 0, LAST_HOUR_OF_DAY)
            && leaves != back;
    }

    private static boolean isBus(int size, int charge, int need, int leaves, int back) {
        return isWithin(size, LEAST_SIZE, MOST_SIZE) && isWithin(charge, 0, size) && isRoute(need, leaves, back);
    }

    private static boolean isSetting(int what, int value) {
        return isWithin(what, 0, SETTINGS - 1) && isWithin(value, LEAST_SETTINGS[what], MOST_SETTINGS[what]);
    }

    // ---- what the calls are made of

    /** A copy of a depot, in which the buses are at the chargers of the hour that would go by. */
    private Depot previewOf(Depot depot) {
        preview.becomeLike(depot);
        preview.moveBuses();
        preview.lineUp();
        preview.plugIn();
        return preview;
    }

    private static StringBuilder signOf(int b, Bus bus) {
        StringBuilder sign = new StringBuilder();
        sign.append('b').append(b).append(' ').append(bus.charge);
        if (bus.charge >= 100) {
            sign.append('!');
        }
        return sign.append('/').append(bus.size).append(' ').append(bus.word());
    }

    private boolean wouldDo(int limit, int n) {
        trial.becomeLike(now);
        trial.change(LIMIT, limit);
        for (int i = 0; i < n; i++) {
            trial.passHours(1);
            if (trial.missed != now.missed) {
                return false;
            }
        }
        return true;
    }

    private int costOfNight(int start, int n) {
        trial.becomeLike(now);
        trial.change(NIGHT_START, start);
        trial.passHours(n);
        return trial.paid - now.paid;
    }

    /** What is left of a script when its lowest groups are cut off. */
    private static long groupsFrom(long script, int cut) {
        long rest = script;
        for (int i = 0; i < cut; i++) {
            rest /= GROUP;
        }
        return rest;
    }

    /** Does a command of a script in the trial. */
    private boolean succeeds(int group) {
        int four = group % 10000;
        int digit = four / 1000;
        int three = four % 1000;
        switch (group / 10000) {
            // A digit other than the written 0 makes the hours and the power too large.
            case 1: return trial.tryPassHours(four);
            case 2: return trial.tryGiveBattery(digit, three);
            case 3: return trial.tryChange(digit, three);
            case 4: return trial.tryPutCharger(four);
            case 5: return trial.hasCharge(digit, three);
            case 6: return three == 0 && trial.isOut(digit);
            case 7: return four < 100 && trial.missed <= four;
            case 8: return three % 100 == 0 && previewOf(trial).chargerOf(digit) == three / 100;
            case 9: return four < 100 && trial.gone >= four;
            default: return false;
        }
    }

    private void simulateTurn(int r) {
        int b = r / 8 % 8;
        switch (r % 8) {
            case 0:
                trial.tryGiveRoute(b, 1 + r / 64 % 99, r / 8192 % 24, r / 262144 % 24);
                break;
            case 1:
                trial.tryGiveBattery(b, 10 + r / 64 % 200);
                break;
            case 2:
                trial.tryChange(LIMIT, r / 64 % 251);
                break;
            default:
                trial.tryPassHours(1 + r / 8 % 9);
                break;
        }
    }

    /** A bus with its battery and its route. */
    private static final class Bus {
        int size;
        int charge;
        int need;
        int leaves;
        int back;
        int wear;
        boolean out;

        // Found anew whenever the buses are plugged in: no part of the state.
        int rank = NONE;
        int atCharger = NONE;
        int units;

        void becomeLike(Bus other) {
            size = other.size;
            charge = other.charge;
            need = other.need;
            leaves = other.leaves;
            back = other.back;
            wear = other.wear;
            out = other.out;
        }

        void giveRoute(int newNeed, int newLeaves, int newBack) {
            need = newNeed;
            leaves = newLeaves;
            back = newBack;
        }

        void giveBattery(int newSize) {
            size = newSize;
            charge = 0;
            wear = 0;
        }

        boolean isLow() {
            return !out && charge < need;
        }

        String word() {
            if (out) {
                return "out";
            }
            if (isLow()) {
                return "low";
            }
            return charge == size ? "full" : "ok";
        }

        void goOut(int moreWear, int wearLimit) {
            out = true;
            charge -= need;
            wear += moreWear;
            if (wear >= wearLimit) {
                wear -= wearLimit;
                size = Math.max(LEAST_SIZE, size - 1);
                charge = Math.min(charge, size);
            }
        }

        int wearOfRoute() {
            if (100 * need >= 80 * size) {
                return 3;
            }
            return 100 * need >= 50 * size ? 2 : 1;
        }
    }

    /** A whole state: everything but the text and the save slots. */
    private static final class Depot {
        /** The rank of those that are charged by night alone: behind each that is in want. */
        private static final int LAST_RANK = 1000000;

        final Bus[] buses = new Bus[MOST_BUSES];
        final int[] powers = new int[MOST_CHARGERS];
        final int[] order = new int[MOST_CHARGERS];
        final int[] settings = new int[SETTINGS];
        int busCount;
        int chargerCount;
        int hour;
        int paid;
        int charged;
        int missed;
        int gone;

        Depot() {
            for (int b = 0; b < buses.length; b++) {
                buses[b] = new Bus();
            }
            System.arraycopy(FIRST_SETTINGS, 0, settings, 0, SETTINGS);
        }

        void becomeNew() {
            System.arraycopy(FIRST_SETTINGS, 0, settings, 0, SETTINGS);
            busCount = 0;
            chargerCount = 0;
            hour = 0;
            paid = 0;
            charged = 0;
            missed = 0;
            gone = 0;
        }

        void becomeLike(Depot other) {
            for (int b = 0; b < other.busCount; b++) {
                buses[b].becomeLike(other.buses[b]);
            }
            System.arraycopy(other.powers, 0, powers, 0, MOST_CHARGERS);
            System.arraycopy(other.order, 0, order, 0, MOST_CHARGERS);
            System.arraycopy(other.settings, 0, settings, 0, SETTINGS);
            busCount = other.busCount;
            chargerCount = other.chargerCount;
            hour = other.hour;
            paid = other.paid;
            charged = other.charged;
            missed = other.missed;
            gone = other.gone;
        }

        // -- what there is

        boolean isFullOfBuses() {
            return busCount >= MOST_BUSES;
        }

        boolean isFullOfChargers() {
            return chargerCount >= MOST_CHARGERS;
        }

        /** The bus with a number; null if there is none. */
        Bus busAt(int b) {
            return isWithin(b, 0, busCount - 1) ? buses[b] : null;
        }

        boolean hasCharger(int c) {
            return isWithin(c, 0, chargerCount - 1);
        }

        int powerOf(int c) {
            return hasCharger(c) ? powers[c] : 0;
        }

        int placeOf(int c) {
            for (int place = 0; place < chargerCount; place++) {
                if (order[place] == c) {
                    return place;
                }
            }
            return NONE;
        }

        int settingOf(int what) {
            return isWithin(what, 0, SETTINGS - 1) ? settings[what] : 0;
        }

        int countOut() {
            int count = 0;
            for (int b = 0; b < busCount; b++) {
                if (buses[b].out) {
                    count++;
                }
            }
            return count;
        }

        int countLow() {
            int count = 0;
            for (int b = 0; b < busCount; b++) {
                if (buses[b].isLow()) {
                    count++;
                }
            }
            return count;
        }

        int sumOfCharges() {
            int sum = 0;
            for (int b = 0; b < busCount; b++) {
                sum += buses[b].charge;
            }
            return sum;
        }

        boolean isOut(int b) {
            Bus bus = busAt(b);
            return bus != null && bus.out;
        }

        boolean hasCharge(int b, int least) {
            Bus bus = busAt(b);
            return bus != null && bus.charge >= least;
        }

        int hourOfDay() {
            return hour % HOURS_OF_DAY;
        }

        boolean isNight() {
            return Math.floorMod(hour - settings[NIGHT_START], HOURS_OF_DAY) < HOURS_OF_NIGHT;
        }

        /** 1 to 24: a bus that leaves at this hour leaves next in a day. */
        int hoursUntilLeaving(Bus bus) {
            int hours = bus.leaves - hourOfDay();
            return hours > 0 ? hours : hours + HOURS_OF_DAY;
        }

        boolean isMissedNow(int b) {
            Bus bus = busAt(b);
            return bus != null && isDue(bus) && bus.isLow();
        }

        // -- changes, each of them only where it has been found to be allowed

        int putBus(int size, int charge, int need, int leaves, int back) {
            int b = busCount;
            if (isFullOfBuses()) {
                return NONE;
            }
            Bus bus = buses[b];
            bus.giveBattery(size);
            bus.giveRoute(need, leaves, back);
            bus.charge = charge;
            bus.out = false;
            busCount = b + 1;
            return b;
        }

        /** The new charger comes behind those that are as strong, since its number is higher. */
        int putCharger(int power) {
            int c = chargerCount;
            if (isFullOfChargers()) {
                return NONE;
            }
            int place = c;
            for (; place > 0 && powerOf(order[place - 1]) < power; place--) {
                order[place] = order[place - 1];
            }
            order[place] = c;
            powers[c] = power;
            chargerCount = c + 1;
            return c;
        }

        void change(int what, int value) {
            if (isSetting(what, value)) {
                settings[what] = value;
            }
        }

        // -- changes that are left out if they are not allowed, with the answer whether they were made

        boolean tryPutBus(int size, int charge, int need, int leaves, int back) {
            return isBus(size, charge, need, leaves, back) && putBus(size, charge, need, leaves, back) != NONE;
        }

        boolean tryPutCharger(int power) {
            return isWithin(power, 1, MOST_POWER) && putCharger(power) != NONE;
        }

        boolean tryGiveRoute(int b, int need, int leaves, int back) {
            Bus bus = busAt(b);
            if (bus == null || bus.out || !isRoute(need, leaves, back)) {
                return false;
            }
            bus.giveRoute(need, leaves, back);
            return true;
        }

        boolean tryGiveBattery(int b, int size) {
            Bus bus = busAt(b);
            if (bus == null || bus.out || !isWithin(size, LEAST_SIZE, MOST_SIZE)) {
                return false;
            }
            bus.giveBattery(size);
            return true;
        }

        boolean tryChange(int what, int value) {
            if (!isSetting(what, value)) {
                return false;
            }
            change(what, value);
            return true;
        }

        boolean tryPassHours(int n) {
            if (!isWithin(n, 1, LONGEST_RUN)) {
                return false;
            }
            passHours(n);
            return true;
        }

        // -- hours

        void passHours(int n) {
            for (int i = 0; i < n; i++) {
                moveBuses();
                lineUp();
                plugIn();
                chargeBuses();
                hour++;
            }
        }

        /**
         * Steps 1 and 2 of an hour in one go: no bus does both, as it leaves and comes back at
         * different hours, and what one bus does changes nothing for another.
         */
        void moveBuses() {
            int time = hourOfDay();
            for (int b = 0; b < busCount; b++) {
                Bus bus = buses[b];
                if (bus.out && bus.back == time) {
                    bus.out = false;
                } else if (isDue(bus)) {
                    sendOut(bus);
                }
            }
        }

        private boolean isDue(Bus bus) {
            return !bus.out && bus.leaves == hourOfDay();
        }

        private void sendOut(Bus bus) {
            if (bus.isLow()) {
                missed++;
                paid += settings[MISSED_PRICE];
            } else {
                bus.goOut(bus.wearOfRoute(), settings[WEAR_LIMIT]);
                gone++;
            }
        }

        /** Gives each bus its rank among those that want to be charged. */
        void lineUp() {
            boolean night = isNight();
            for (int b = 0; b < busCount; b++) {
                Bus bus = buses[b];
                bus.rank = rankOf(bus, night);
                bus.atCharger = NONE;
                bus.units = 0;
            }
        }

        /** Finds who is at which charger, and the units that each gets, without charging yet. */
        void plugIn() {
            int left = settings[LIMIT];
            for (int place = 0; place < chargerCount; place++) {
                int b = firstInLine();
                if (b == NONE) {
                    return;
                }
                Bus bus = buses[b];
                bus.rank = NONE;
                bus.atCharger = order[place];
                bus.units = Math.min(left, Math.min(powerOf(order[place]), bus.size - bus.charge));
                left -= bus.units;
            }
        }

        /** A number that is the less the sooner the bus is charged; NONE if it wants no charge. */
        private int rankOf(Bus bus, boolean night) {
            if (bus.out || bus.charge >= bus.size) {
                return NONE;
            }
            if (bus.charge < bus.need) {
                int lack = bus.need - bus.charge;
                return (MOST_NEED + 1) * hoursUntilLeaving(bus) + MOST_NEED - lack;
            }
            return night ? LAST_RANK : NONE;
        }

        private int firstInLine() {
            int first = NONE;
            int least = LAST_RANK + 1;
            for (int b = 0; b < busCount; b++) {
                int rank = buses[b].rank;
                if (rank != NONE && rank < least) {
                    first = b;
                    least = rank;
                }
            }
            return first;
        }

        private void chargeBuses() {
            int price = settings[isNight() ? NIGHT_PRICE : DAY_PRICE];
            for (int b = 0; b < busCount; b++) {
                Bus bus = buses[b];
                bus.charge += bus.units;
                charged += bus.units;
                paid += bus.units * price;
            }
        }

        // -- who is plugged in where

        int unitsOf(int b) {
            Bus bus = busAt(b);
            return bus == null ? 0 : bus.units;
        }

        int chargerOf(int b) {
            Bus bus = busAt(b);
            return bus == null ? NONE : bus.atCharger;
        }

        int busAtCharger(int c) {
            for (int b = 0; b < busCount; b++) {
                if (buses[b].atCharger == c) {
                    return b;
                }
            }
            return NONE;
        }
    }

    /** The states before the last actions, the oldest first. */
    private static final class History {
        final Depot[] states = new Depot[MOST_REMEMBERED];
        int count;

        History() {
            for (int i = 0; i < states.length; i++) {
                states[i] = new Depot();
            }
        }

        boolean isEmpty() {
            return count <= 0;
        }

        void remember(Depot state) {
            if (count >= states.length) {
                forgetOldest();
            }
            states[count].becomeLike(state);
            count++;
        }

        /** The row of the oldest state goes behind the others, to be used again. */
        private void forgetOldest() {
            Depot oldest = states[0];
            for (int i = 1; i < states.length; i++) {
                states[i - 1] = states[i];
            }
            states[states.length - 1] = oldest;
            count = states.length - 1;
        }

        /** Makes a depot like the last state, forgets that one, and tells how many are left. */
        int takeBack(Depot depot) {
            if (!isEmpty()) {
                count--;
                depot.becomeLike(states[count]);
            }
            return count;
        }

        void forgetAll() {
            count = 0;
        }
    }

    /** The text buffer, and a reader that goes through it from left to right. */
    private static final class Text {
        final char[] signs = new char[LONGEST_TEXT];
        int length;

        // The reader: its position, and the command that it read last.
        int at;
        int firstLetter;
        final int[] numbers = new int[MOST_NUMBERS];

        boolean isFull() {
            return length >= LONGEST_TEXT;
        }

        int put(char c) {
            if (!isFull()) {
                signs[length] = c;
                length++;
            }
            return length;
        }

        int empty() {
            int previous = length;
            length = 0;
            return previous;
        }

        int findError() {
            at = 0;
            for (int i = 0; i <= length; i++) {
                if (!readCommand()) {
                    return at;
                }
                if (at == length) {
                    return NONE;
                }
                if (!readSign(';')) {
                    return at;
                }
            }
            return at;
        }

        /** Lets a depot do the commands of a text without an error; tells how many it leaves out. */
        int doAllIn(Depot depot) {
            int leftOut = 0;
            boolean more = true;
            at = 0;
            for (int i = 0; more && i <= length; i++) {
                if (!readCommand() || !doIn(depot)) {
                    leftOut++;
                }
                more = readSign(';');
            }
            return leftOut;
        }

        /** Does the command that was read last; false if it is left out. */
        private boolean doIn(Depot depot) {
            switch (firstLetter) {
                case 'b': return depot.tryPutBus(numbers[0], numbers[1], numbers[2], numbers[3], numbers[4]);
                case 'p': return depot.tryPutCharger(numbers[0]);
                case 'r':
                    depot.passHours(numbers[0]);
                    return true;
                case 's': return depot.tryChange(numbers[0], numbers[1]);
                default: return false;
            }
        }

        /** Reads a command; false at the first sign that is not allowed, or where one is missing. */
        private boolean readCommand() {
            // No two words begin with the same letter, so the first one tells the word.
            firstLetter = signAt(at);
            switch (firstLetter) {
                case 'b':
                    return readWord("bus")
                        && readNumber(0, LEAST_SIZE, MOST_SIZE)
                        && readNumber(1, 0, MOST_SIZE)
                        && readNumber(2, 1, MOST_NEED)
                        && readNumber(3, 0, LAST_HOUR_OF_DAY)
                        && readNumber(4, 0, LAST_HOUR_OF_DAY);
                case 'p':
                    return readWord("plug") && readNumber(0, 1, MOST_POWER);
                case 'r':
                    return readWord("run") && readNumber(0, 1, LONGEST_RUN);
                case 's':
                    return readWord("set") && readNumber(0, 0, SETTINGS - 1) && readNumber(1, 0, MOST_VALUE);
                default:
                    return false;
            }
        }

        private boolean readWord(String word) {
            for (int i = 0; i < word.length(); i++) {
                if (!readSign(word.charAt(i))) {
                    return false;
                }
            }
            return true;
        }

        /** Reads a comma and a number in a range, and keeps it as the k-th one of the command. */
        private boolean readNumber(int k, int least, int most) {
            if (!readSign(',') || !readDigit(0, least, most)) {
                return false;
            }
            int value = digitAt(at - 1);
            for (int digits = 1; digits < MOST_DIGITS && value > 0; digits++) {
                if (readDigit(10 * value, least, most)) {
                    value = 10 * value + digitAt(at - 1);
                }
            }
            if (!isWithin(value, least, most) || !isWithin(k, 0, MOST_NUMBERS - 1)) {
                return false;
            }
            numbers[k] = value;
            return true;
        }

        /** Reads a digit if a number in the range begins with it behind those before it, which make ten times. */
        private boolean readDigit(int tens, int least, int most) {
            int digit = digitAt(at);
            if (digit == NONE || !beginsNumber(tens + digit, least, most)) {
                return false;
            }
            at++;
            return true;
        }

        private static boolean beginsNumber(int begin, int least, int most) {
            if (begin == 0) {
                return least <= 0;
            }
            int low = begin;
            int high = begin;
            for (int digits = 0; digits < MOST_DIGITS && low <= most; digits++) {
                if (high >= least) {
                    return true;
                }
                low = 10 * low;
                high = 10 * high + 9;
            }
            return false;
        }

        private boolean readSign(int sign) {
            if (signAt(at) != sign) {
                return false;
            }
            at++;
            return true;
        }

        private int digitAt(int i) {
            int sign = signAt(i);
            return isWithin(sign, '0', '9') ? sign - '0' : NONE;
        }

        private int signAt(int i) {
            if (i < 0 || i >= length) {
                return NONE;
            }
            return signs[i];
        }
    }
}
