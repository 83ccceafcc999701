/** Depots for the tests, and all that can be told of one. */
final class Depots {
    /** Makes the same depot each time. */
    interface Rig {
        DepotCharge make();
    }

    /** A call of a depot. */
    interface Ask {
        long of(DepotCharge x);
    }

    private static final int LONGEST_SIGN = 16;

    private Depots() {
    }

    static DepotCharge typed(String text) {
        DepotCharge x = new DepotCharge();
        type(x, text);
        return x;
    }

    static void type(DepotCharge x, String text) {
        for (int i = 0; i < text.length(); i++) {
            x.append(text.charAt(i));
        }
    }

    static DepotCharge loaded(String text) {
        DepotCharge x = typed(text);
        x.load();
        return x;
    }

    static String signOf(DepotCharge x, int b) {
        StringBuilder sign = new StringBuilder();
        for (int i = 0; i <= LONGEST_SIGN; i++) {
            int c = x.sign(b, i);
            if (c == DepotCharge.NONE) {
                break;
            }
            sign.append((char) c);
        }
        return sign.toString();
    }

    /** All that can be read of the state, in some 250 calls at most. */
    static String stateOf(DepotCharge x) {
        StringBuilder all = new StringBuilder();
        for (int what = 0; what <= 10; what++) {
            all.append(x.about(what)).append(' ');
        }
        int buses = x.about(0);
        for (int b = 0; b < buses; b++) {
            for (int what = 0; what <= 9; what++) {
                all.append(x.bus(b, what)).append(' ');
            }
            all.append(signOf(x, b)).append(' ');
        }
        int chargers = x.about(1);
        for (int c = 0; c < chargers; c++) {
            for (int what = 0; what <= 2; what++) {
                all.append(x.charger(c, what)).append(' ');
            }
        }
        for (int what = 0; what <= 5; what++) {
            all.append(x.setting(what)).append(' ');
        }
        return all.toString();
    }

    /**
     * The state behind a call, and with it what else an object holds: each state that is remembered, both save
     * slots, and the text. Each part is asked of an object of its own, as undo and restore change what they tell.
     */
    static String wholeOf(Rig rig, Ask call) {
        StringBuilder all = new StringBuilder("state ").append(stateOf(behind(rig, call)));
        int left = 1;
        for (int back = 1; left > 0; back++) {
            DepotCharge x = behind(rig, call);
            left = undone(x, back);
            all.append("\nundo ").append(left).append(": ").append(stateOf(x));
        }
        for (int i = 0; i <= 1; i++) {
            int slot = i;
            DepotCharge x = behind(rig, call);
            all.append("\nslot ").append(Checks.told(() -> x.restore(slot))).append(": ").append(stateOf(x));
        }
        DepotCharge x = behind(rig, call);
        all.append("\ntext ").append(x.errorPosition()).append(' ').append(Checks.told(() -> x.load()));
        all.append(' ').append(x.clearText()).append(": ").append(stateOf(x));
        return all.toString();
    }

    private static DepotCharge behind(Rig rig, Ask call) {
        DepotCharge x = rig.make();
        Checks.told(() -> call.of(x));
        return x;
    }

    /** Takes back some actions; answers what the last undo answered, or -1 if there was none to take back. */
    private static int undone(DepotCharge x, int times) {
        int left = -1;
        for (int i = 0; i < times; i++) {
            try {
                left = x.undo();
            } catch (IllegalStateException e) {
                return -1;
            }
        }
        return left;
    }

    /** The turns of simulate, as calls of the depot itself. */
    static void play(DepotCharge x, long seed, int m) {
        long number = seed;
        for (int i = 0; i < m; i++) {
            number = number * 6364136223846793005L + 1442695040888963407L;
            int r = (int) (number >>> 33);
            int b = (r / 8) % 8;
            switch (r % 8) {
                case 0:
                    Checks.told(() -> x.route(b, 1 + (r / 64) % 99, (r / 8192) % 24, (r / 262144) % 24));
                    break;
                case 1:
                    Checks.told(() -> x.battery(b, 10 + (r / 64) % 200));
                    break;
                case 2:
                    x.set(0, (r / 64) % 251);
                    break;
                default:
                    x.run(1 + (r / 8) % 9);
                    break;
            }
        }
    }

    // ---- rigs

    /**
     * All of it is in use: a text, 14 states remembered, both slots filled, with other states. It is the hour 3,
     * of two buses the bus 0 is out and the bus 1 in the depot, and there are two chargers.
     */
    static DepotCharge busy() {
        return busy("plug,9;run,4");
    }

    static DepotCharge busy(String text) {
        DepotCharge x = typed(text);
        x.addBus(100, 90, 60, 1, 9);
        x.addBus(50, 20, 30, 5, 8);
        x.addCharger(10);
        x.addCharger(20);
        x.save(0);
        for (int price = 1; price <= 9; price++) {
            x.set(3, price);
        }
        x.run(2);
        x.save(1);
        x.set(0, 25);
        x.run(1);
        return x;
    }

    static DepotCharge withEightBuses() {
        DepotCharge x = busy();
        for (int b = 2; b < 8; b++) {
            x.addBus(10 + b, b, b, b, b + 1);
        }
        return x;
    }

    static DepotCharge withFiveChargers() {
        DepotCharge x = busy();
        for (int c = 2; c < 5; c++) {
            x.addCharger(10 * c);
        }
        return x;
    }

    static DepotCharge withFullText() {
        return busy(fullText());
    }

    /** A depot of 120 characters. */
    static String fullText() {
        StringBuilder text = new StringBuilder("set,0,10");
        for (int i = 0; i < 14; i++) {
            text.append(";set,0,1");
        }
        return text.toString();
    }

    /** As busy(), but in the hour 10, when both buses are back in the depot. */
    static DepotCharge withAllBack() {
        DepotCharge x = busy();
        x.run(7);
        return x;
    }

    /** As busy(), but with a text that is no depot. */
    static DepotCharge withBadText() {
        return busy("plug,9;");
    }

    /** No state is remembered, but the slots and the text are in use. */
    static DepotCharge withNothingToUndo() {
        DepotCharge x = busy();
        x.restore(0);
        return x;
    }

    /** Nothing is saved, but states are remembered, and there is a text. */
    static DepotCharge withEmptySlots() {
        DepotCharge x = typed("run,2");
        x.addBus(50, 40, 20, 1, 3);
        x.run(2);
        return x;
    }

    /** A bus in a depot without chargers, that was full and left in the hour 0. */
    static DepotCharge left(int wearLimit, int size, int need) {
        DepotCharge x = new DepotCharge();
        x.set(4, wearLimit);
        x.addBus(size, size, need, 0, 1);
        x.run(1);
        return x;
    }
}
