import java.util.ArrayList;
import java.util.List;
import java.util.Random;

/** What drawn runs are made of: isles, texts with a fault, rows that tell something, calls with drawn numbers. */
final class Draws {
    private static final int[] WILD = {
        -1, -2, -7, 2, 3, 5, 6, 7, 8, 12, 13, 14, 15, 16, 24, 25, 39, 40, 41, 60, 61, 99, 100, 255, 256, 999, 1000,
        999999, 1000000, Integer.MAX_VALUE, Integer.MIN_VALUE, Integer.MAX_VALUE - 5, Integer.MIN_VALUE + 5};

    private final Random random;

    Draws(long seed) {
        random = new Random(seed);
    }

    int small(int bound) {
        return random.nextInt(bound);
    }

    String isle() {
        int low = small(10);
        int high = low + small(10 - low);
        StringBuilder text = new StringBuilder("i");
        text.append(number(low)).append(',').append(number(high)).append(',').append(number(1 + small(9))).append(";h");
        for (int i = 0; i < 15; i++) {
            text.append((char) ('a' + small(10)));
        }
        text.append(';');
        int bidders = 1 + small(5);
        for (int i = 0; i < bidders; i++) {
            text.append("bazgl".charAt(small(5))).append(number(small(100))).append(',').append(number(small(15)));
            text.append(';');
        }
        return text.toString();
    }

    /** Five bidders with money, low water, small prices: much can be had and held. */
    String richIsle() {
        int low = small(4);
        int high = Math.min(9, low + small(6));
        StringBuilder text = new StringBuilder("i" + low + ',' + high + ',' + (1 + small(3)) + ";h");
        for (int i = 0; i < 15; i++) {
            text.append((char) ('a' + small(10)));
        }
        text.append(';');
        int first = small(5);
        for (int i = 0; i < 5; i++) {
            text.append("bazgl".charAt((first + i) % 5)).append(60 + small(40)).append(',').append(small(15));
            text.append(';');
        }
        return text.toString();
    }

    private String number(int v) {
        return v < 10 && small(6) == 0 ? "0" + v : "" + v;
    }

    /** One byte more, less, or another; or a bidder more. */
    String marred(String text) {
        String odd = "ihbazglk,;0123456789 A\u00e9\u0000";
        char c = odd.charAt(small(odd.length()));
        int at = small(text.length());
        switch (small(6)) {
            case 0: return text.substring(0, at) + c + text.substring(at);
            case 1: return text.substring(0, at) + text.substring(at + 1);
            case 2: return text.substring(0, at) + c + text.substring(at + 1);
            case 3: return text.substring(0, at);
            case 4: return text + "b1,1;l2,2;a3,3;z4,4;g5,5;";
            default: return text + c;
        }
    }

    /** An act that is not refused, but for want of money, where there is one. */
    void act(Pair pair) {
        switch (small(6)) {
            case 0: pair.call("hours", 1 + small(2)); break;
            case 1: give(pair); break;
            case 2: raise(pair); break;
            default: bid(pair); break;
        }
    }

    private List<Integer> cellsHeld(Pair pair, boolean held) {
        List<Integer> cells = new ArrayList<>();
        for (int cell = 0; cell < 15; cell++) {
            if (pair.model.call("cell", cell, 1) >= 0 == held) {
                cells.add(cell);
            }
        }
        return cells;
    }

    private void bid(Pair pair) {
        int bidder = small(5);
        List<Integer> cells = cellsHeld(pair, false);
        cells.removeIf(cell -> pair.model.call("price", bidder, cell) < 0);
        pair.call("bid", bidder, cells.isEmpty() ? small(15) : cells.get(small(cells.size())));
    }

    private void raise(Pair pair) {
        List<Integer> cells = cellsHeld(pair, true);
        int cell = cells.isEmpty() ? small(15) : cells.get(small(cells.size()));
        pair.call("raise", Math.max(0, pair.model.call("cell", cell, 1)), cell);
    }

    private void give(Pair pair) {
        List<Integer> cells = cellsHeld(pair, true);
        int cell = cells.isEmpty() ? small(15) : cells.get(small(cells.size()));
        int from = Math.max(0, pair.model.call("cell", cell, 1));
        pair.call("give", from, (from + 1 + small(4)) % 5, cell);
    }

    /** Levels as they come, with a cell that may stand higher than it does. */
    void rowOfRaised(Pair pair) {
        int row = small(8);
        int n = 1 + small(4);
        pair.call("row", row, 1 + small(2), n);
        int cell = small(15);
        int height = pair.model.call("cell", cell, 0);
        for (int t = 1; t <= n; t++) {
            int level = pair.model.call("ahead", t, 0);
            int dry = pair.model.call("ahead", t, 1);
            if (small(3) > 0) {
                dry = height + 1 > level ? dry | 1 << cell : dry & ~(1 << cell);
            }
            pair.call("set", row, t - 1, dry);
        }
        pair.call("raised", row, 0, n);
    }

    /** Prices to one bidder, where it can have the cells. */
    void rowOfWho(Pair pair) {
        int row = small(8);
        int n = 1 + small(4);
        pair.call("row", row, small(3), 2 * n);
        int man = small(5);
        for (int k = 0; k < n; k++) {
            int c = small(15);
            pair.call("set", row, 2 * k, c);
            int cost = pair.model.call("price", man, c);
            pair.call("set", row, 2 * k + 1, cost == Model.NONE ? pair.model.call("count", 3) * small(3) : cost);
        }
        pair.call("who", row, 0, n);
    }

    void rowOfPurses(Pair pair) {
        int row = small(8);
        int n = 1 + small(4);
        pair.call("row", row, small(3), n);
        for (int k = 0; k < n; k++) {
            pair.call("set", row, k, small(15));
        }
        int one = small(5);
        pair.call("purses", one, row, 0, n, 0);
        pair.call("purses", one, row, 0, n, 1);
    }

    private int some(boolean wild, int bound) {
        return wild && small(3) == 0 ? WILD[small(WILD.length)] : small(bound);
    }

    /** A call with numbers that are told, or, if wild, with some that are not. */
    void call(Pair pair, String name, boolean wild) {
        pair.call(name, numbers(name, wild));
    }

    private int[] numbers(String name, boolean z) {
        switch (name) {
            case "row": return of(some(z, 8), some(z, 3), some(z, 41));
            case "set": return of(some(z, 8), some(z, 12), random.nextInt() >> small(32));
            case "copy": return of(some(z, 8), some(z, 6), some(z, 8), some(z, 6), some(z, 12));
            case "drop": return of(small(3) == 0 ? some(z, 8) : 8 + small(2));
            case "feed": return of(some(z, 256));
            case "isle": case "fault": case "undo": case "cuts": case "status": return of();
            case "hours": return of(small(6) == 0 ? some(z, 25) : 1 + small(3));
            case "bid": case "raise": case "price": case "home": return of(some(z, 5), some(z, 15));
            case "give": return of(some(z, 5), some(z, 5), some(z, 15));
            case "bidder": return of(some(z, 5), some(z, 3));
            case "cell": return of(some(z, 15), some(z, 4));
            case "ahead": return of(some(z, 61), some(z, 3));
            case "stays": case "trace": return of(some(z, 15));
            case "when": case "ring": return of(some(z, 15), some(z, 2));
            case "buy": case "ask": return of(some(z, 5), some(z, 2));
            case "harvest": return of(some(z, 5), 1 + some(z, 5), 1 + some(z, 12));
            case "raised": case "who": return of(some(z, 8), some(z, 3), 1 + some(z, 6));
            case "purses": return of(some(z, 5), some(z, 8), some(z, 3), 1 + some(z, 6), some(z, 2));
            case "drawn": return of(some(z, 61), 1 + some(z, 999999), some(z, 2));
            case "image": case "restore": return of(some(z, 2));
            case "kind": return of(some(z, 5));
            case "as": return of(some(z, 5), some(z, 6));
            case "count": return of(some(z, 8));
            default: throw new IllegalStateException(name);
        }
    }

    private static int[] of(int... numbers) {
        return numbers;
    }
}
