/** An object and the model side by side: each call goes to both, and what they answer must be alike. */
final class Pair {
    /** So many calls an object is used for; calls beyond them are not made. */
    static final int LONGEST = 512;

    final Model model = new Model();
    private final TideInches object = new TideInches();
    private final Check check;
    private final String run;
    private int calls = 0;

    Pair(Check check, String run) {
        this.check = check;
        this.run = run;
    }

    boolean isUsedUp() {
        return calls >= LONGEST;
    }

    int callsLeft() {
        return LONGEST - calls;
    }

    void tell(String text) {
        for (int i = 0; i < text.length(); i++) {
            call("feed", text.charAt(i));
        }
        call("isle");
        call("fault");
    }

    void call(String name, int... a) {
        if (isUsedUp()) {
            return;
        }
        calls++;
        StringBuilder told = new StringBuilder(run + ", call " + calls + ": " + name + "(");
        for (int i = 0; i < a.length; i++) {
            told.append(i == 0 ? "" : ", ").append(a[i]);
        }
        check.due(told + ")", answer(object, name, a), model.call(name, a));
    }

    static int answer(TideInches x, String name, int... a) {
        switch (name) {
            case "row": return x.row(a[0], a[1], a[2]);
            case "set": return x.set(a[0], a[1], a[2]);
            case "copy": return x.copy(a[0], a[1], a[2], a[3], a[4]);
            case "drop": return x.drop(a[0]);
            case "feed": return x.feed(a[0]);
            case "isle": return x.isle();
            case "fault": return x.fault();
            case "undo": return x.undo();
            case "hours": return x.hours(a[0]);
            case "bid": return x.bid(a[0], a[1]);
            case "raise": return x.raise(a[0], a[1]);
            case "give": return x.give(a[0], a[1], a[2]);
            case "bidder": return x.bidder(a[0], a[1]);
            case "cell": return x.cell(a[0], a[1]);
            case "price": return x.price(a[0], a[1]);
            case "ahead": return x.ahead(a[0], a[1]);
            case "stays": return x.stays(a[0]);
            case "when": return x.when(a[0], a[1]);
            case "cuts": return x.cuts();
            case "home": return x.home(a[0], a[1]);
            case "buy": return x.buy(a[0], a[1]);
            case "harvest": return x.harvest(a[0], a[1], a[2]);
            case "raised": return x.raised(a[0], a[1], a[2]);
            case "who": return x.who(a[0], a[1], a[2]);
            case "ring": return x.ring(a[0], a[1]);
            case "purses": return x.purses(a[0], a[1], a[2], a[3], a[4]);
            case "drawn": return x.drawn(a[0], a[1], a[2]);
            case "image": return x.image(a[0]);
            case "restore": return x.restore(a[0]);
            case "kind": return x.kind(a[0]);
            case "as": return x.as(a[0], a[1]);
            case "ask": return x.ask(a[0], a[1]);
            case "trace": return x.trace(a[0]);
            case "count": return x.count(a[0]);
            case "status": return x.status();
            default: throw new IllegalStateException(name);
        }
    }
}
