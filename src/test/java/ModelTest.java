/** Runs of 512 drawn calls, each held against the model; a third of them with numbers that are not as told. */
public final class ModelTest {
    private static final String[] NAMES = {
        "row", "set", "copy", "drop", "feed", "isle", "fault", "undo", "hours", "bid", "raise", "give", "bidder",
        "cell", "price", "ahead", "stays", "when", "cuts", "home", "buy", "harvest", "raised", "who", "ring",
        "purses", "drawn", "image", "restore", "kind", "as", "ask", "trace", "count", "status"};

    private final Draws draws = new Draws(20261118);
    private final Check check = new Check();

    public static void main(String[] args) {
        int runs = args.length > 0 ? Integer.parseInt(args[0]) : 1500;
        ModelTest test = new ModelTest();
        for (int run = 0; run < runs; run++) {
            test.run(new Pair(test.check, "run " + run));
        }
        test.check.end();
    }

    private void run(Pair pair) {
        if (draws.small(12) > 0) {
            pair.tell(draws.isle());
        }
        boolean longTide = draws.small(8) == 0;
        while (!pair.isUsedUp()) {
            if (longTide && pair.callsLeft() > 32) {
                pair.call("hours", 20 + draws.small(5));
            }
            int kindOfStep = draws.small(100);
            if (kindOfStep < 2) {
                pair.tell(draws.isle());
            } else if (kindOfStep < 4) {
                pair.tell(draws.marred(draws.isle()));
            } else if (kindOfStep < 10) {
                guessedRow(pair);
            } else if (kindOfStep < 25) {
                pair.call("bid", draws.small(5), draws.small(15));
            } else {
                draws.call(pair, NAMES[draws.small(NAMES.length)], draws.small(4) == 0);
            }
        }
    }

    /** Rows by which raised, who and purses have something to say. */
    private void guessedRow(Pair pair) {
        switch (draws.small(3)) {
            case 0: draws.rowOfRaised(pair); break;
            case 1: draws.rowOfWho(pair); break;
            default: draws.rowOfPurses(pair); break;
        }
    }
}
