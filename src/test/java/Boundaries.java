/**
 * What the tests of the boundary cases have in common. Each check stands under a sentence of the document, which is
 * named with its section ahead of a failure, and looked up in the document, so that no sentence is made up or left out.
 */
abstract class Boundaries {
    static final String ARGUMENT = Checks.ARGUMENT;
    static final String STATE = Checks.STATE;
    static final String INDEX = Checks.INDEX;
    static final int NONE = DepotCharge.NONE;

    /** A call of a depot with a number. */
    interface AskWith {
        long of(DepotCharge x, int value);
    }

    private final Checks checks;
    private final Document document;
    private String sentence = "";

    Boundaries(Checks checks, Document document) {
        this.checks = checks;
        this.document = document;
    }

    abstract void runAll();

    /** The checks behind this stand for these words of the document. */
    final void says(String section, String words) {
        sentence = section + ", \"" + words + "\": ";
        asksNothing(section, words);
    }

    /** These words of the document tell nothing that a call could be asked for, or what others tell in full. */
    final void asksNothing(String section, String words) {
        if (document != null) {
            checks.same(section + " says: " + words, 1, document.quote(section, words) ? 1 : 0);
        }
    }

    final void due(String what, long due, long got) {
        checks.same(sentence + what, due, got);
    }

    final void due(String what, String due, String got) {
        checks.same(sentence + what, due, got);
    }

    /** A call that throws, and behind which everything is as it was. */
    final void refused(String call, String exception, Depots.Rig rig, Depots.Ask ask) {
        DepotCharge x = rig.make();
        checks.same(sentence + call, exception, Checks.told(() -> ask.of(x)));
        changesNothing(call, rig, ask);
    }

    final void changesNothing(String call, Depots.Rig rig, Depots.Ask ask) {
        checks.same(sentence + call + " changes nothing",
            Depots.wholeOf(rig, x -> 0), Depots.wholeOf(rig, ask));
    }

    /** The last values of a range are taken, and the first ones outside of it, and the farthest, are refused. */
    final void within(int least, int most, String exception, Depots.Rig rig, AskWith ask) {
        taken(least, rig, ask);
        taken(most, rig, ask);
        int[] outside = {least - 1, most + 1, Integer.MIN_VALUE, Integer.MAX_VALUE};
        for (int value : outside) {
            refused("with " + value, exception, rig, x -> ask.of(x, value));
        }
    }

    private void taken(int value, Depots.Rig rig, AskWith ask) {
        DepotCharge x = rig.make();
        String told = Checks.told(() -> ask.of(x, value));
        checks.same(sentence + "with " + value, "no exception", told.endsWith("Exception") ? told : "no exception");
    }
}
