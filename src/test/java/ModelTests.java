import java.util.Random;

/** Random runs of calls, the same ones every time, on DepotCharge and on the model: the answers are the same. */
final class ModelTests {
    private static final int RUNS = 2500;
    private static final int CALLS = 512;
    private static final String SIGNS = "buspluruntset,;0123456789 x/:A";

    private final Checks checks;
    private DepotCharge real;
    private Model model;
    private Random random;
    private StringBuilder log;
    private int calls;

    ModelTests(Checks checks) {
        this.checks = checks;
    }

    void runAll() {
        for (int seed = 0; seed < RUNS && checks.countFailed() < 5; seed++) {
            oneRun(seed);
        }
    }

    private void oneRun(int seed) {
        real = new DepotCharge();
        model = new Model();
        random = new Random(seed);
        log = new StringBuilder();
        calls = 0;
        int failed = checks.countFailed();
        if (random.nextInt(3) > 0) {
            fillDepot();
        }
        while (calls < CALLS && checks.countFailed() == failed) {
            oneStep();
        }
        if (checks.countFailed() != failed) {
            System.out.println("seed " + seed + ":" + log);
        }
    }

    /** The call on both, and the comparison; nothing behind the 512th call, as nothing is promised of it. */
    private void both(String call, Checks.Call one, Checks.Call other) {
        if (calls >= CALLS) {
            return;
        }
        calls++;
        String got = Checks.told(one);
        log.append(' ').append(call).append('=').append(got);
        checks.same(call, Checks.told(other), got);
    }

    private int from(int least, int most) {
        return least + random.nextInt(most - least + 1);
    }

    /** A number of the range mostly, sometimes just outside of it, or far away. */
    private int about(int least, int most) {
        switch (random.nextInt(40)) {
            case 0: return least - 1;
            case 1: return most + 1;
            case 2: return random.nextBoolean() ? Integer.MIN_VALUE : Integer.MAX_VALUE;
            case 3: return least;
            case 4: return most;
            default: return from(least, most);
        }
    }

    private void fillDepot() {
        int buses = from(1, 8);
        for (int i = 0; i < buses; i++) {
            addBus();
        }
        int chargers = from(0, 5);
        for (int i = 0; i < chargers; i++) {
            addCharger();
        }
    }

    private void oneStep() {
        int kind = random.nextInt(100);
        if (kind < 4) {
            text();
        } else if (kind < 45) {
            look();
        } else if (kind < 85) {
            act();
        } else if (kind < 97) {
            foresee();
        } else {
            keep();
        }
    }

    // ---- text

    private String command() {
        switch (random.nextInt(9)) {
            case 0:
            case 1:
            case 2:
                return "bus," + from(10, 150) + "," + from(0, 120) + "," + from(1, 150) + "," + from(0, 23) + ","
                    + from(0, 23);
            case 3:
            case 4:
                return "plug," + from(1, 50);
            case 5:
            case 6:
                return "run," + from(1, 48);
            default:
                return "set," + from(0, 5) + "," + (random.nextBoolean() ? from(0, 30) : from(0, 999));
        }
    }

    private void text() {
        StringBuilder text = new StringBuilder(random.nextInt(8) == 0 ? "" : command());
        int more = random.nextInt(8);
        for (int i = 0; i < more; i++) {
            text.append(';').append(command());
        }
        if (random.nextInt(3) == 0 && text.length() > 0) {
            spoil(text);
        }
        both("clearText()", () -> real.clearText(), () -> model.clearText());
        for (int i = 0; i < text.length() && i < 125; i++) {
            int c = text.charAt(i);
            both("append(" + c + ")", () -> real.append(c), () -> model.append(c));
        }
        if (random.nextInt(4) == 0) {
            int c = about(0, 255);
            both("append(" + c + ")", () -> real.append(c), () -> model.append(c));
        }
        both("errorPosition()", () -> real.errorPosition(), () -> model.errorPosition());
        both("load()", () -> real.load(), () -> model.load());
    }

    private void spoil(StringBuilder text) {
        int i = random.nextInt(text.length());
        char c = SIGNS.charAt(random.nextInt(SIGNS.length()));
        switch (random.nextInt(4)) {
            case 0: text.setCharAt(i, c); break;
            case 1: text.insert(i, c); break;
            case 2: text.deleteCharAt(i); break;
            default: text.setLength(i); break;
        }
    }

    // ---- what there is

    private void look() {
        int b = about(0, 7);
        switch (random.nextInt(5)) {
            case 0: {
                int what = about(0, 10);
                both("about(" + what + ")", () -> real.about(what), () -> model.about(what));
                break;
            }
            case 1: {
                int what = about(0, 9);
                both("bus(" + b + "," + what + ")", () -> real.bus(b, what), () -> model.bus(b, what));
                break;
            }
            case 2: {
                int c = about(0, 4);
                int what = about(0, 2);
                both("charger(" + c + "," + what + ")", () -> real.charger(c, what), () -> model.charger(c, what));
                break;
            }
            case 3: {
                int i = about(0, 16);
                both("sign(" + b + "," + i + ")", () -> real.sign(b, i), () -> model.sign(b, i));
                break;
            }
            default: {
                int what = about(0, 5);
                both("setting(" + what + ")", () -> real.setting(what), () -> model.setting(what));
                break;
            }
        }
    }

    // ---- actions

    private void act() {
        switch (random.nextInt(12)) {
            case 0: addBus(); break;
            case 1: addCharger(); break;
            case 2: route(); break;
            case 3: battery(); break;
            case 4:
            case 5: set(); break;
            case 6: both("undo()", () -> real.undo(), () -> model.undo()); break;
            default: run(); break;
        }
    }

    private void addBus() {
        int size = random.nextBoolean() ? about(10, 60) : about(10, 400);
        int charge = random.nextInt(4) == 0 ? size : about(0, Math.max(0, Math.min(size, 400)));
        int need = random.nextBoolean() ? about(1, 60) : about(1, 400);
        int leaves = about(0, 23);
        int back = about(0, 23);
        both("addBus(" + size + "," + charge + "," + need + "," + leaves + "," + back + ")",
            () -> real.addBus(size, charge, need, leaves, back),
            () -> model.addBus(size, charge, need, leaves, back));
    }

    private void addCharger() {
        int power = random.nextBoolean() ? about(1, 50) : from(5, 8);
        both("addCharger(" + power + ")", () -> real.addCharger(power), () -> model.addCharger(power));
    }

    private void route() {
        int b = about(0, 7);
        int need = random.nextBoolean() ? about(1, 60) : about(1, 400);
        int leaves = about(0, 23);
        int back = about(0, 23);
        both("route(" + b + "," + need + "," + leaves + "," + back + ")",
            () -> real.route(b, need, leaves, back), () -> model.route(b, need, leaves, back));
    }

    private void battery() {
        int b = about(0, 7);
        int size = about(10, 400);
        both("battery(" + b + "," + size + ")", () -> real.battery(b, size), () -> model.battery(b, size));
    }

    private void set() {
        int[] most = {250, 99, 99, 999, 99, 23};
        int what = about(0, 5);
        int v = about(0, what < 0 || what > 5 ? 9 : random.nextBoolean() ? most[what] : Math.min(20, most[what]));
        both("set(" + what + "," + v + ")", () -> real.set(what, v), () -> model.set(what, v));
    }

    private void run() {
        int n = random.nextInt(3) > 0 ? from(1, 5) : about(1, 48);
        both("run(" + n + ")", () -> real.run(n), () -> model.run(n));
    }

    // ---- what would be, scripts, simulations

    private void foresee() {
        int n = about(1, 72);
        switch (random.nextInt(8)) {
            case 0: {
                int what = about(0, 3);
                both("coming(" + n + "," + what + ")", () -> real.coming(n, what), () -> model.coming(n, what));
                break;
            }
            case 1: {
                int b = about(0, 7);
                both("firstMissed(" + b + ")", () -> real.firstMissed(b), () -> model.firstMissed(b));
                break;
            }
            case 2:
                both("leastLimit(" + n + ")", () -> real.leastLimit(n), () -> model.leastLimit(n));
                break;
            case 3:
                both("bestNight(" + n + ")", () -> real.bestNight(n), () -> model.bestNight(n));
                break;
            case 4: {
                int power = about(1, 50);
                both("ifPlugged(" + power + "," + n + ")",
                    () -> real.ifPlugged(power, n), () -> model.ifPlugged(power, n));
                break;
            }
            case 5: {
                long seed = random.nextLong();
                int m = about(1, 30);
                both("simulate(" + seed + "," + m + ")", () -> real.simulate(seed, m), () -> model.simulate(seed, m));
                break;
            }
            default:
                script();
                break;
        }
    }

    private void script() {
        int n = about(1, 3);
        long number = 0;
        for (int i = 0; i < n && i < 3; i++) {
            number = 100000 * number + group();
        }
        if (random.nextInt(30) == 0) {
            number = random.nextBoolean() ? -number : 10 * number + 1;
        }
        long script = number;
        both("runScript(" + n + "," + script + ")", () -> real.runScript(n, script), () -> model.runScript(n, script));
    }

    private int group() {
        int b = random.nextInt(9);
        switch (random.nextInt(12)) {
            case 0: return 10000 + about(1, 48) % 100;
            case 1: return 20000 + 1000 * b + from(0, 420);
            case 2: return 30000 + 1000 * from(0, 6) + from(0, 260);
            case 3: return 40000 + from(0, 52);
            case 4: return 50000 + 1000 * b + from(0, 60);
            case 5: return 60000 + 1000 * b;
            case 6: return 70000 + from(0, 20);
            case 7: return 80000 + 1000 * b + 100 * from(0, 5);
            case 8: return 90000 + from(0, 20);
            case 9: return 10000 * from(1, 9) + 1000 * b + 100 * from(0, 2) + from(0, 3);
            default: return random.nextInt(100000);
        }
    }

    // ---- save slots

    private void keep() {
        int slot = about(0, 1);
        if (random.nextBoolean()) {
            both("save(" + slot + ")", () -> real.save(slot), () -> model.save(slot));
        } else {
            both("restore(" + slot + ")", () -> real.restore(slot), () -> model.restore(slot));
        }
    }
}
