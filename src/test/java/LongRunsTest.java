/**
 * Each promise over runs of 512 calls on one object, against the model: an isle where much can be had, acts that are
 * not refused, and by turns with them the call that the promise tells. Acts go on for the whole run, so that the call
 * is asked of many isles: held, raised, given, undone, brought back.
 */
public final class LongRunsTest {
    private static final int RUNS = 60;

    private final Draws draws = new Draws(20261119);
    private final Check check = new Check();

    public static void main(String[] args) {
        int runs = args.length > 0 ? Integer.parseInt(args[0]) : RUNS;
        LongRunsTest test = new LongRunsTest();
        for (int run = 0; run < runs; run++) {
            test.noIsle(run);
            test.rows(run);
            test.texts(run);
            test.acts(run);
            test.foretold(run);
            test.foretoldOfRows(run);
            test.images(run);
            test.asked(run);
        }
        test.check.end();
    }

    /** Promise 1: no isle is told in the whole run. */
    private void noIsle(int run) {
        Pair pair = new Pair(check, "no isle, run " + run);
        String[] all = {"hours", "bid", "raise", "give", "bidder", "cell", "price", "ahead", "stays", "when", "cuts",
            "home", "buy", "harvest", "raised", "who", "ring", "purses", "drawn", "image", "restore", "kind", "as",
            "ask", "trace", "count", "undo", "fault", "status", "row", "set", "copy", "isle"};
        for (int i = 0; !pair.isUsedUp(); i++) {
            draws.call(pair, all[i % all.length], draws.small(3) == 0);
        }
    }

    /** Promises 2 to 5, 36: rows come, change, are copied and dropped. */
    private void rows(int run) {
        for (String name : new String[] {"row", "set", "copy", "drop", "status"}) {
            Pair pair = new Pair(check, name + ", run " + run);
            for (int row = 0; row < 8; row++) {
                pair.call("row", row, row % 3, 40);
            }
            while (!pair.isUsedUp()) {
                draws.call(pair, name, draws.small(4) == 0);
                pair.call("set", draws.small(8), draws.small(40), draws.small(1 << 20));
                pair.call("copy", draws.small(8), draws.small(20), draws.small(8), draws.small(20), draws.small(21));
                pair.call("row", draws.small(8), draws.small(3), 20 + draws.small(21));
                pair.call("status");
                pair.call("count", 0);
            }
        }
    }

    /** Promises 6 to 8: texts one behind another, with faults and without. */
    private void texts(int run) {
        Pair pair = new Pair(check, "texts, run " + run);
        while (!pair.isUsedUp()) {
            pair.tell(draws.small(3) == 0 ? draws.isle() : draws.marred(draws.isle()));
            for (int what = 0; what < 8; what++) {
                pair.call("count", what);
            }
        }
    }

    /** Promises 9 to 16: acts that change something, undone now and then, at times many in a row. */
    private void acts(int run) {
        for (String name : new String[] {"undo", "hours", "bid", "raise", "give", "bidder", "cell", "price"}) {
            Pair pair = begun(name, run);
            while (!pair.isUsedUp()) {
                draws.act(pair);
                draws.call(pair, name, draws.small(4) == 0);
                for (int i = draws.small(40) == 0 ? 26 : 0; i > 0; i--) {
                    pair.call("undo");
                    pair.call("cell", draws.small(15), draws.small(4));
                    pair.call("bidder", draws.small(5), draws.small(3));
                }
            }
        }
    }

    /** Promises 17 to 23, 26, 28. */
    private void foretold(int run) {
        for (String name : new String[] {"ahead", "stays", "when", "cuts", "home", "buy", "harvest", "ring", "drawn"}) {
            Pair pair = begun(name, run);
            while (!pair.isUsedUp()) {
                draws.act(pair);
                draws.call(pair, name, draws.small(6) == 0);
                draws.call(pair, name, false);
                if (draws.small(5) == 0) {
                    pair.call("undo");
                }
            }
        }
    }

    /** Promises 24, 25, 27. */
    private void foretoldOfRows(int run) {
        for (String name : new String[] {"raised", "who", "purses"}) {
            Pair pair = begun(name, run);
            while (!pair.isUsedUp()) {
                draws.act(pair);
                switch (name) {
                    case "raised": draws.rowOfRaised(pair); break;
                    case "who": draws.rowOfWho(pair); break;
                    default: draws.rowOfPurses(pair); break;
                }
                draws.call(pair, name, draws.small(3) == 0);
                pair.call("status");
            }
        }
    }

    /** Promises 29, 30. */
    private void images(int run) {
        Pair pair = begun("images", run);
        String[] names = {"image", "restore", "undo"};
        while (!pair.isUsedUp()) {
            draws.act(pair);
            draws.call(pair, names[draws.small(3)], draws.small(5) == 0);
            pair.call("count", 4 + draws.small(3));
            pair.call("cell", draws.small(15), draws.small(4));
            pair.call("bidder", draws.small(5), draws.small(3));
        }
    }

    /** Promises 31 to 36; another isle comes by now and then, with other kinds in other places. */
    private void asked(int run) {
        for (String name : new String[] {"kind", "as", "ask", "trace", "count", "status"}) {
            Pair pair = begun(name, run);
            while (!pair.isUsedUp()) {
                draws.act(pair);
                draws.call(pair, name, draws.small(4) == 0);
                draws.call(pair, "ask", draws.small(8) == 0);
                for (int i = 0; i < 8; i++) {
                    pair.call("trace", i);
                }
                draws.call(pair, "as", false);
                pair.call("status");
                if (draws.small(20) == 0) {
                    pair.tell(draws.richIsle());
                }
            }
        }
    }

    private Pair begun(String name, int run) {
        Pair pair = new Pair(check, name + ", run " + run);
        pair.tell(draws.richIsle());
        return pair;
    }
}
