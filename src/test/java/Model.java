import java.util.ArrayList;
import java.util.Comparator;
import java.util.List;

/**
 * The document once more, in the plainest form and without care for speed or room: the tests compare
 * DepotCharge with it. It shares no code with DepotCharge, so that a slip in one shows against the other.
 */
final class Model {
    private static final class Bus {
        int number;
        int size;
        int charge;
        int need;
        int leaves;
        int back;
        int wear;
        boolean out;
        // of the last hour that went by
        int got;
        int charger;
        boolean missed;

        Bus copy() {
            Bus b = new Bus();
            b.number = number;
            b.size = size;
            b.charge = charge;
            b.need = need;
            b.leaves = leaves;
            b.back = back;
            b.wear = wear;
            b.out = out;
            return b;
        }
    }

    private static final class State {
        final List<Bus> buses = new ArrayList<>();
        final List<Integer> powers = new ArrayList<>();
        int[] settings = {60, 5, 2, 100, 20, 22};
        int hour;
        int paid;
        int charged;
        int missed;
        int gone;

        State copy() {
            State s = new State();
            for (Bus b : buses) {
                s.buses.add(b.copy());
            }
            s.powers.addAll(powers);
            s.settings = settings.clone();
            s.hour = hour;
            s.paid = paid;
            s.charged = charged;
            s.missed = missed;
            s.gone = gone;
            return s;
        }

        int day() {
            return hour % 24;
        }

        boolean night() {
            for (int i = 0; i < 8; i++) {
                if ((settings[5] + i) % 24 == day()) {
                    return true;
                }
            }
            return false;
        }

        int until(Bus bus) {
            for (int i = 1; i < 24; i++) {
                if ((day() + i) % 24 == bus.leaves) {
                    return i;
                }
            }
            return 24;
        }

        List<Integer> chargerOrder() {
            List<Integer> order = new ArrayList<>();
            for (int power = 50; power >= 1; power--) {
                for (int c = 0; c < powers.size(); c++) {
                    if (powers.get(c) == power) {
                        order.add(c);
                    }
                }
            }
            return order;
        }

        Bus bus(int b) {
            if (b < 0 || b >= buses.size()) {
                throw new IndexOutOfBoundsException();
            }
            return buses.get(b);
        }

        void hourGoesBy() {
            List<Bus> cameBack = new ArrayList<>();
            for (Bus bus : buses) {
                bus.got = 0;
                bus.charger = -1;
                bus.missed = false;
                if (bus.out && bus.back == day()) {
                    bus.out = false;
                    cameBack.add(bus);
                }
            }
            for (Bus bus : buses) {
                if (!cameBack.contains(bus) && !bus.out && bus.leaves == day()) {
                    leave(bus);
                }
            }
            charge();
            hour++;
        }

        private void leave(Bus bus) {
            if (bus.charge < bus.need) {
                bus.missed = true;
                missed++;
                paid += settings[3];
                return;
            }
            gone++;
            bus.out = true;
            bus.charge -= bus.need;
            int percent = 100 * bus.need;
            bus.wear += percent >= 80 * bus.size ? 3 : percent >= 50 * bus.size ? 2 : 1;
            if (bus.wear >= settings[4]) {
                bus.wear -= settings[4];
                if (bus.size > 10) {
                    bus.size--;
                }
                if (bus.charge > bus.size) {
                    bus.charge = bus.size;
                }
            }
        }

        private void charge() {
            List<Bus> inWant = new ArrayList<>();
            List<Bus> others = new ArrayList<>();
            for (Bus bus : buses) {
                if (bus.out) {
                    continue;
                }
                if (bus.charge < bus.need && bus.charge < bus.size) {
                    inWant.add(bus);
                } else if (night() && bus.charge < bus.size) {
                    others.add(bus);
                }
            }
            inWant.sort(Comparator.<Bus>comparingInt(b -> until(b))
                .thenComparingInt(b -> -(b.need - b.charge))
                .thenComparingInt(b -> b.number));
            inWant.addAll(others);
            List<Integer> order = chargerOrder();
            int left = settings[0];
            for (int i = 0; i < inWant.size() && i < order.size(); i++) {
                Bus bus = inWant.get(i);
                bus.charger = order.get(i);
                bus.got = Math.min(Math.min(powers.get(bus.charger), bus.size - bus.charge), left);
                left -= bus.got;
            }
            for (Bus bus : inWant) {
                bus.charge += bus.got;
                charged += bus.got;
                paid += bus.got * (night() ? settings[2] : settings[1]);
            }
        }
    }

    private final StringBuilder text = new StringBuilder();
    private State now = new State();
    private List<State> remembered = new ArrayList<>();
    private State[] slots = new State[2];

    private static void demand(boolean held) {
        if (!held) {
            throw new IllegalArgumentException();
        }
    }

    private static void permit(boolean held) {
        if (!held) {
            throw new IllegalStateException();
        }
    }

    private static void exists(boolean held) {
        if (!held) {
            throw new IndexOutOfBoundsException();
        }
    }

    private static boolean in(int v, int least, int most) {
        return least <= v && v <= most;
    }

    // ---- text

    int append(int c) {
        demand(in(c, 0, 255));
        permit(text.length() < 120);
        text.append((char) c);
        return text.length();
    }

    int clearText() {
        int before = text.length();
        text.setLength(0);
        return before;
    }

    int errorPosition() {
        String all = text.toString();
        for (int i = 0; i < all.length(); i++) {
            if (!begins(all.substring(0, i + 1))) {
                return i;
            }
        }
        for (String command : all.split(";", -1)) {
            if (!isCommand(command)) {
                return all.length();
            }
        }
        return -1;
    }

    private static int[][] rangesOf(String word) {
        switch (word) {
            case "bus": return new int[][] {{10, 400}, {0, 400}, {1, 400}, {0, 23}, {0, 23}};
            case "plug": return new int[][] {{1, 50}};
            case "run": return new int[][] {{1, 48}};
            case "set": return new int[][] {{0, 5}, {0, 999}};
            default: return null;
        }
    }

    private static boolean isNumber(String digits, int[] range) {
        for (int v = range[0]; v <= range[1]; v++) {
            if (Integer.toString(v).equals(digits)) {
                return true;
            }
        }
        return false;
    }

    private static boolean beginsNumber(String digits, int[] range) {
        for (int v = range[0]; v <= range[1]; v++) {
            if (Integer.toString(v).startsWith(digits)) {
                return true;
            }
        }
        return false;
    }

    private static boolean isCommand(String command) {
        String[] parts = command.split(",", -1);
        int[][] ranges = rangesOf(parts[0]);
        if (ranges == null || parts.length != ranges.length + 1) {
            return false;
        }
        for (int i = 0; i < ranges.length; i++) {
            if (!isNumber(parts[i + 1], ranges[i])) {
                return false;
            }
        }
        return true;
    }

    private static boolean beginsCommand(String begin) {
        String[] parts = begin.split(",", -1);
        if (parts.length == 1) {
            for (String word : new String[] {"bus", "plug", "run", "set"}) {
                if (word.startsWith(begin)) {
                    return true;
                }
            }
            return false;
        }
        int[][] ranges = rangesOf(parts[0]);
        if (ranges == null || parts.length > ranges.length + 1) {
            return false;
        }
        for (int i = 1; i < parts.length - 1; i++) {
            if (!isNumber(parts[i], ranges[i - 1])) {
                return false;
            }
        }
        return beginsNumber(parts[parts.length - 1], ranges[parts.length - 2]);
    }

    private static boolean begins(String begin) {
        String[] commands = begin.split(";", -1);
        for (int i = 0; i < commands.length - 1; i++) {
            if (!isCommand(commands[i])) {
                return false;
            }
        }
        return beginsCommand(commands[commands.length - 1]);
    }

    int load() {
        permit(errorPosition() == -1);
        now = new State();
        int leftOut = 0;
        for (String command : text.toString().split(";", -1)) {
            String[] parts = command.split(",", -1);
            int[] v = new int[parts.length];
            for (int i = 1; i < parts.length; i++) {
                v[i] = Integer.parseInt(parts[i]);
            }
            try {
                switch (parts[0]) {
                    case "bus": addBus(v[1], v[2], v[3], v[4], v[5]); break;
                    case "plug": addCharger(v[1]); break;
                    case "run": run(v[1]); break;
                    default: set(v[1], v[2]); break;
                }
            } catch (RuntimeException e) {
                leftOut++;
            }
        }
        remembered = new ArrayList<>();
        slots = new State[2];
        return leftOut;
    }

    // ---- what there is

    int about(int what) {
        demand(in(what, 0, 10));
        int out = 0;
        int low = 0;
        int sum = 0;
        for (Bus bus : now.buses) {
            out += bus.out ? 1 : 0;
            low += !bus.out && bus.charge < bus.need ? 1 : 0;
            sum += bus.charge;
        }
        int[] all = {now.buses.size(), now.powers.size(), now.hour, now.paid, now.charged, now.missed, now.gone,
            out, low, now.night() ? 1 : 0, sum};
        return all[what];
    }

    int bus(int b, int what) {
        Bus bus = now.bus(b);
        demand(in(what, 0, 9));
        State next = now.copy();
        next.hourGoesBy();
        int[] all = {bus.size, bus.charge, bus.need, bus.leaves, bus.back, bus.wear, bus.out ? 1 : 0,
            next.bus(b).got, next.bus(b).charger, now.until(bus)};
        return all[what];
    }

    int charger(int c, int what) {
        exists(in(c, 0, now.powers.size() - 1));
        demand(in(what, 0, 2));
        State next = now.copy();
        next.hourGoesBy();
        int at = -1;
        for (Bus bus : next.buses) {
            at = bus.charger == c ? bus.number : at;
        }
        int[] all = {now.powers.get(c), now.chargerOrder().indexOf(c), at};
        return all[what];
    }

    int sign(int b, int i) {
        Bus bus = now.bus(b);
        demand(i >= 0);
        String word = bus.out ? "out" : bus.charge < bus.need ? "low" : bus.charge == bus.size ? "full" : "ok";
        String mark = Integer.toString(bus.charge).length() == 3 ? "!" : "";
        String sign = "b" + b + " " + bus.charge + mark + "/" + bus.size + " " + word;
        return i < sign.length() ? sign.charAt(i) : -1;
    }

    int setting(int what) {
        demand(in(what, 0, 5));
        return now.settings[what];
    }

    // ---- actions

    private void remember() {
        remembered.add(now.copy());
        while (remembered.size() > 14) {
            remembered.remove(0);
        }
    }

    int addBus(int size, int charge, int need, int leaves, int back) {
        demand(in(size, 10, 400) && in(charge, 0, size));
        demand(in(need, 1, 400) && in(leaves, 0, 23) && in(back, 0, 23) && leaves != back);
        permit(now.buses.size() < 8);
        remember();
        Bus bus = new Bus();
        bus.number = now.buses.size();
        bus.size = size;
        bus.charge = charge;
        bus.need = need;
        bus.leaves = leaves;
        bus.back = back;
        now.buses.add(bus);
        return bus.number;
    }

    int addCharger(int power) {
        demand(in(power, 1, 50));
        permit(now.powers.size() < 5);
        remember();
        now.powers.add(power);
        return now.powers.size() - 1;
    }

    int route(int b, int need, int leaves, int back) {
        now.bus(b);
        demand(in(need, 1, 400) && in(leaves, 0, 23) && in(back, 0, 23) && leaves != back);
        permit(!now.bus(b).out);
        remember();
        Bus bus = now.bus(b);
        int before = bus.need;
        bus.need = need;
        bus.leaves = leaves;
        bus.back = back;
        return before;
    }

    int battery(int b, int size) {
        now.bus(b);
        demand(in(size, 10, 400));
        permit(!now.bus(b).out);
        remember();
        Bus bus = now.bus(b);
        int before = bus.size;
        bus.size = size;
        bus.charge = 0;
        bus.wear = 0;
        return before;
    }

    int run(int n) {
        demand(in(n, 1, 48));
        remember();
        int before = now.charged;
        for (int i = 0; i < n; i++) {
            now.hourGoesBy();
        }
        return now.charged - before;
    }

    int set(int what, int v) {
        int[] least = {0, 0, 0, 0, 1, 0};
        int[] most = {250, 99, 99, 999, 99, 23};
        demand(in(what, 0, 5));
        demand(in(v, least[what], most[what]));
        remember();
        int before = now.settings[what];
        now.settings[what] = v;
        return before;
    }

    int undo() {
        permit(!remembered.isEmpty());
        now = remembered.remove(remembered.size() - 1);
        return remembered.size();
    }

    // ---- what would be

    private static State later(State state, int n) {
        State s = state.copy();
        for (int i = 0; i < n; i++) {
            s.hourGoesBy();
        }
        return s;
    }

    int coming(int n, int what) {
        demand(in(n, 1, 72) && in(what, 0, 3));
        State s = later(now, n);
        int[] all = {s.paid - now.paid, s.charged - now.charged, s.missed - now.missed, s.gone - now.gone};
        return all[what];
    }

    int firstMissed(int b) {
        now.bus(b);
        State s = now.copy();
        for (int i = 0; i < 72; i++) {
            int hour = s.hour;
            s.hourGoesBy();
            if (s.bus(b).missed) {
                return hour;
            }
        }
        return -1;
    }

    int leastLimit(int n) {
        demand(in(n, 1, 72));
        for (int tens = 0; tens <= 25; tens++) {
            State s = now.copy();
            s.settings[0] = 10 * tens;
            if (later(s, n).missed == now.missed) {
                return 10 * tens;
            }
        }
        return -1;
    }

    int bestNight(int n) {
        demand(in(n, 1, 72));
        int best = 23;
        int paid = Integer.MAX_VALUE;
        for (int start = 23; start >= 0; start--) {
            State s = now.copy();
            s.settings[5] = start;
            int would = later(s, n).paid;
            if (would <= paid) {
                paid = would;
                best = start;
            }
        }
        return best;
    }

    int ifPlugged(int power, int n) {
        demand(in(power, 1, 50) && in(n, 1, 72));
        permit(now.powers.size() < 5);
        State s = now.copy();
        s.powers.add(power);
        return later(s, n).missed - now.missed;
    }

    // ---- scripts, simulations

    /** Another model in the same state, of which nothing comes back. */
    private Model twin() {
        Model m = new Model();
        m.now = now.copy();
        return m;
    }

    int runScript(int n, long script) {
        demand(in(n, 1, 3) && script >= 0 && Long.toString(script).length() <= 5 * n);
        String digits = Long.toString(script);
        while (digits.length() < 5 * n) {
            digits = "0" + digits;
        }
        Model m = twin();
        for (int i = 0; i < n; i++) {
            boolean well;
            try {
                well = m.command(digits.substring(5 * i, 5 * i + 5));
            } catch (RuntimeException e) {
                well = false;
            }
            if (!well) {
                return i;
            }
        }
        return -1;
    }

    private boolean command(String group) {
        int d = group.charAt(1) - '0';
        int xxx = Integer.parseInt(group.substring(2));
        int nn = Integer.parseInt(group.substring(3));
        boolean zeros = group.charAt(1) == '0' && group.charAt(2) == '0';
        switch (group.charAt(0)) {
            case '1':
                demand(zeros);
                run(nn);
                return true;
            case '2':
                battery(d, xxx);
                return true;
            case '3':
                set(d, xxx);
                return true;
            case '4':
                demand(zeros);
                addCharger(nn);
                return true;
            case '5':
                return bus(d, 1) >= xxx;
            case '6':
                return group.endsWith("000") && bus(d, 6) == 1;
            case '7':
                return zeros && about(5) <= nn;
            case '8':
                charger(group.charAt(2) - '0', 0);
                return group.endsWith("00") && bus(d, 8) == group.charAt(2) - '0';
            case '9':
                return zeros && about(6) >= nn;
            default:
                return false;
        }
    }

    int simulate(long seed, int m) {
        demand(in(m, 1, 30));
        Model twin = twin();
        long x = seed;
        for (int i = 0; i < m; i++) {
            x = x * 6364136223846793005L + 1442695040888963407L;
            int r = (int) (x >>> 33);
            int b = (r / 8) % 8;
            try {
                if (r % 8 == 0) {
                    twin.route(b, 1 + (r / 64) % 99, (r / 8192) % 24, (r / 262144) % 24);
                } else if (r % 8 == 1) {
                    twin.battery(b, 10 + (r / 64) % 200);
                } else if (r % 8 == 2) {
                    twin.set(0, (r / 64) % 251);
                } else {
                    twin.run(1 + (r / 8) % 9);
                }
            } catch (RuntimeException e) {
                continue;
            }
        }
        return 1000 * (twin.now.missed - now.missed) + twin.now.gone - now.gone;
    }

    // ---- save slots

    int save(int slot) {
        exists(in(slot, 0, 1));
        slots[slot] = now.copy();
        return now.hour;
    }

    int restore(int slot) {
        exists(in(slot, 0, 1));
        permit(slots[slot] != null);
        now = slots[slot].copy();
        remembered = new ArrayList<>();
        return now.hour;
    }
}
