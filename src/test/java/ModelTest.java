import java.util.Random;

/** Runs of 512 drawn calls, each held against the model; a third of them with numbers that are not as told. */
public final class ModelTest {
    private static final String[] NAMES = {
        "row", "set", "copy", "drop", "feed", "isle", "fault", "undo", "hours", "bid", "raise", "give", "bidder",
        "cell", "price", "ahead", "stays", "when", "cuts", "home", "buy", "harvest", "raised", "who", "ring",
        "purses", "drawn", "image", "restore", "kind", "as", "ask", "trace", "count", "status"};
    private static final int[] WILD = {
        -1, -2, -7, 2, 3, 5, 6, 7, 8, 12, 13, 14, 15, 16, 24, 25, 39, 40, 41, 60, 61, 99, 100, 255, 256, 999, 1000,
        999999, 1000000, Integer.MAX_VALUE, Integer.MIN_VALUE, Integer.MAX_VALUE - 5, Integer.MIN_VALUE + 5};

    private final Random random;
    private final Check check;
    private TideInches x;
    private Model model;
    private int run;
    private int calls;

    private ModelTest(long seed, Check check) {
        this.random = new Random(seed);
        this.check = check;
    }

    public static void main(String[] args) {
        int runs = args.length > 0 ? Integer.parseInt(args[0]) : 1500;
        Check check = new Check();
        ModelTest test = new ModelTest(20261118, check);
        for (int run = 0; run < runs; run++) {
            test.run(run);
        }
        check.end();
    }

    private void run(int number) {
        run = number;
        calls = 0;
        x = new TideInches();
        model = new Model();
        if (random.nextInt(12) > 0) {
            tell(isle());
        }
        boolean longTide = random.nextInt(8) == 0;
        while (calls < 512) {
            if (longTide && calls < 480) {
                call("hours", 20 + random.nextInt(5));
            }
            int kindOfStep = random.nextInt(100);
            if (kindOfStep < 2) {
                tell(isle());
            } else if (kindOfStep < 4) {
                tell(marred(isle()));
            } else if (kindOfStep < 10) {
                guessedRow();
            } else if (kindOfStep < 25) {
                call("bid", small(5), small(15));
            } else {
                drawnCall(NAMES[random.nextInt(NAMES.length)], random.nextInt(4) == 0);
            }
        }
    }

    private int small(int bound) {
        return random.nextInt(bound);
    }

    private void tell(String text) {
        for (int i = 0; i < text.length(); i++) {
            call("feed", text.charAt(i));
        }
        call("isle");
        call("fault");
    }

    private String isle() {
        int low = small(10);
        int high = low + small(10 - low);
        StringBuilder text = new StringBuilder("i");
        text.append(number(low)).append(',').append(number(high)).append(',').append(number(1 + small(9))).append(";h");
        for (int i = 0; i < 15; i++) {
            text.append((char) ('a' + small(10)));
        }
        text.append(';');
        int bidders = 1 + small(5);
        for (int i = 0; i < bidders; i++) {
            text.append("bazgl".charAt(small(5))).append(number(small(100))).append(',').append(number(small(15)));
            text.append(';');
        }
        return text.toString();
    }

    private String number(int v) {
        return v < 10 && small(6) == 0 ? "0" + v : "" + v;
    }

    /** One byte more, less, or another; or a bidder more. */
    private String marred(String text) {
        String odd = "ihbazglk,;0123456789 A\u00e9\u0000";
        char c = odd.charAt(small(odd.length()));
        int at = small(text.length());
        switch (small(6)) {
            case 0: return text.substring(0, at) + c + text.substring(at);
            case 1: return text.substring(0, at) + text.substring(at + 1);
            case 2: return text.substring(0, at) + c + text.substring(at + 1);
            case 3: return text.substring(0, at);
            case 4: return text + "b1,1;l2,2;a3,3;z4,4;g5,5;";
            default: return text + c;
        }
    }

    /** Rows by which raised, who and purses have something to say. */
    private void guessedRow() {
        int row = small(8);
        int n = 1 + small(4);
        switch (small(3)) {
            case 0:
                call("row", row, 1 + small(2), n);
                int cell = small(15);
                int height = model.call("cell", cell, 0);
                for (int t = 1; t <= n; t++) {
                    int level = model.call("ahead", t, 0);
                    int dry = model.call("ahead", t, 1);
                    if (small(3) > 0) {
                        dry = height + 1 > level ? dry | 1 << cell : dry & ~(1 << cell);
                    }
                    call("set", row, t - 1, dry);
                }
                call("raised", row, 0, n);
                break;
            case 1:
                call("row", row, small(3), 2 * n);
                int man = small(5);
                for (int k = 0; k < n; k++) {
                    int c = small(15);
                    call("set", row, 2 * k, c);
                    int cost = model.call("price", man, c);
                    call("set", row, 2 * k + 1, cost == Model.NONE ? model.call("count", 3) * small(3) : cost);
                }
                call("who", row, 0, n);
                break;
            default:
                call("row", row, small(3), n);
                for (int k = 0; k < n; k++) {
                    call("set", row, k, small(15));
                }
                int one = small(5);
                call("purses", one, row, 0, n, 0);
                call("purses", one, row, 0, n, 1);
                break;
        }
    }

    private int some(boolean wild, int bound) {
        return wild && small(3) == 0 ? WILD[small(WILD.length)] : small(bound);
    }

    private void drawnCall(String name, boolean z) {
        switch (name) {
            case "row": call(name, some(z, 8), some(z, 3), some(z, 41)); break;
            case "set": call(name, some(z, 8), some(z, 12), random.nextInt() >> small(32)); break;
            case "copy": call(name, some(z, 8), some(z, 6), some(z, 8), some(z, 6), some(z, 12)); break;
            case "drop": call(name, small(3) == 0 ? some(z, 8) : 8 + small(2)); break;
            case "feed": call(name, some(z, 256)); break;
            case "isle": case "fault": case "undo": case "cuts": case "status": call(name); break;
            case "hours": call(name, small(6) == 0 ? some(z, 25) : 1 + small(3)); break;
            case "bid": case "raise": case "price": case "home": call(name, some(z, 5), some(z, 15)); break;
            case "give": call(name, some(z, 5), some(z, 5), some(z, 15)); break;
            case "bidder": call(name, some(z, 5), some(z, 3)); break;
            case "cell": call(name, some(z, 15), some(z, 4)); break;
            case "ahead": call(name, some(z, 61), some(z, 3)); break;
            case "stays": case "trace": call(name, some(z, 15)); break;
            case "when": case "ring": call(name, some(z, 15), some(z, 2)); break;
            case "buy": case "ask": call(name, some(z, 5), some(z, 2)); break;
            case "harvest": call(name, some(z, 5), 1 + some(z, 5), 1 + some(z, 12)); break;
            case "raised": case "who": call(name, some(z, 8), some(z, 3), 1 + some(z, 6)); break;
            case "purses": call(name, some(z, 5), some(z, 8), some(z, 3), 1 + some(z, 6), some(z, 2)); break;
            case "drawn": call(name, some(z, 61), 1 + some(z, 999999), some(z, 2)); break;
            case "image": case "restore": call(name, some(z, 2)); break;
            case "kind": call(name, some(z, 5)); break;
            case "as": call(name, some(z, 5), some(z, 6)); break;
            case "count": call(name, some(z, 8)); break;
            default: throw new IllegalStateException(name);
        }
    }

    private void call(String name, int... a) {
        if (calls >= 512) {
            return;
        }
        calls++;
        StringBuilder told = new StringBuilder("run " + run + ", call " + calls + ": " + name + "(");
        for (int i = 0; i < a.length; i++) {
            told.append(i == 0 ? "" : ", ").append(a[i]);
        }
        check.due(told + ")", answer(name, a), model.call(name, a));
    }

    private int answer(String name, int[] a) {
        switch (name) {
            case "row": return x.row(a[0], a[1], a[2]);
            case "set": return x.set(a[0], a[1], a[2]);
            case "copy": return x.copy(a[0], a[1], a[2], a[3], a[4]);
            case "drop": return x.drop(a[0]);
            case "feed": return x.feed(a[0]);
            case "isle": return x.isle();
            case "fault": return x.fault();
            case "undo": return x.undo();
            case "hours": return x.hours(a[0]);
            case "bid": return x.bid(a[0], a[1]);
            case "raise": return x.raise(a[0], a[1]);
            case "give": return x.give(a[0], a[1], a[2]);
            case "bidder": return x.bidder(a[0], a[1]);
            case "cell": return x.cell(a[0], a[1]);
            case "price": return x.price(a[0], a[1]);
            case "ahead": return x.ahead(a[0], a[1]);
            case "stays": return x.stays(a[0]);
            case "when": return x.when(a[0], a[1]);
            case "cuts": return x.cuts();
            case "home": return x.home(a[0], a[1]);
            case "buy": return x.buy(a[0], a[1]);
            case "harvest": return x.harvest(a[0], a[1], a[2]);
            case "raised": return x.raised(a[0], a[1], a[2]);
            case "who": return x.who(a[0], a[1], a[2]);
            case "ring": return x.ring(a[0], a[1]);
            case "purses": return x.purses(a[0], a[1], a[2], a[3], a[4]);
            case "drawn": return x.drawn(a[0], a[1], a[2]);
            case "image": return x.image(a[0]);
            case "restore": return x.restore(a[0]);
            case "kind": return x.kind(a[0]);
            case "as": return x.as(a[0], a[1]);
            case "ask": return x.ask(a[0], a[1]);
            case "trace": return x.trace(a[0]);
            case "count": return x.count(a[0]);
            case "status": return x.status();
            default: throw new IllegalStateException(name);
        }
    }
}
