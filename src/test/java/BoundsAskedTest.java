/** The boundaries that "Terms", parts 3 and 4, names of IMAGES, KINDS, ASKS, and promises 29 to 36. */
public final class BoundsAskedTest {
    private static final int NONE = -1000000, BAD = -1000001, STATE = -1000002, KIND = -1000013;
    private static final int MOST = Integer.MAX_VALUE, LEAST = Integer.MIN_VALUE;
    private static final int[] NO_CHOICE = {-1, 2, MOST, LEAST};
    private static final Check C = new Check();
    private static final Twins RICH = new Twins(C, Twins::rich);
    private static final Twins LATE = new Twins(C, Twins::late);
    private static final Twins BARE = new Twins(C, Twins::bare);
    private static final Twins NEW = new Twins(C, TideInches::new);

    public static void main(String[] args) {
        imagesAreTwo();
        imagesAreOfAnIsle();
        restoreIsOfWhatWasKept();
        whatAnImageKeeps();
        kindsAre1To5();
        asIsOf0To5();
        asIsWhatItIs();
        asksAreTwo();
        eachBodyBegins();
        theTraceIsEmptyAheadOfAnAsk();
        theTraceIsOfTheFirst16();
        countsAreEight();
        statusIsTold();
        C.end();
    }

    private static void imagesAreTwo() {
        TideInches x = Twins.rich();
        C.due("0", x.image(0), 1);
        C.due("1", x.image(1), 1);
        C.due("0 again", x.restore(0), 1);
        C.due("1 again", x.restore(1), 1);
        for (int k : NO_CHOICE) {
            RICH.refused("image " + k, y -> y.image(k), BAD);
            RICH.refused("restore " + k, y -> y.restore(k), BAD);
            BARE.refused("image " + k + ", BAD ahead of STATE", y -> y.image(k), BAD);
            BARE.refused("restore " + k + ", BAD ahead of STATE", y -> y.restore(k), BAD);
        }
    }

    private static void imagesAreOfAnIsle() {
        for (int k = 0; k < 2; k++) {
            int image = k;
            BARE.refused("image " + k, x -> x.image(image), STATE);
            NEW.refused("image " + k, x -> x.image(image), STATE);
        }
        TideInches x = Twins.bare();
        x.image(0);
        Check.tell(x, "l");
        C.due("no isle yet", x.isle() < 0 ? x.image(0) : 0, STATE);
        C.due("so none was kept", x.restore(0), STATE);
        Check.tell(x, "i0,0,1;hbbbbbbbbbbbbbbb;b1,1;");
        C.due("an isle", x.isle(), 1);
        C.due("none was kept by it", x.restore(0), STATE);
        C.due("kept", x.image(0), 1);
        C.due("that one alone", x.restore(1), STATE);
        C.due("restored", x.restore(0), 1);
    }

    private static void restoreIsOfWhatWasKept() {
        for (int k = 0; k < 2; k++) {
            int image = k;
            BARE.refused("restore " + k, x -> x.restore(image), STATE);
            NEW.refused("restore " + k, x -> x.restore(image), STATE);
        }
        LATE.refused("0 was not kept", x -> x.restore(0), STATE);
        TideInches x = Twins.late();
        C.due("1 was", x.restore(1), 1);
        C.due("hour 0", x.count(4), 0);
        C.due("the goat's", x.count(5), 128);
    }

    private static void whatAnImageKeeps() {
        TideInches x = Twins.rich();
        C.due("an image is no act", x.count(6) + x.image(0), 6 + 1);
        C.due("and leaves the acts", x.count(6), 6);
        x.hours(5);
        x.bid(0, 7);
        x.raise(0, 7);
        C.due("restored", x.restore(0), 1);
        int[] counts = {4, 5, 2, 2, 1, 256 + 512 + 4, 0, 30};
        for (int what = 0; what < 8; what++) {
            C.due("count " + what, x.count(what), counts[what]);
        }
        C.due("undo", x.undo(), STATE);
        C.due("whose", x.cell(8, 1), 1);
        C.due("height", x.cell(8, 0), 6);
        C.due("purse", x.bidder(2, 0), 23);
        C.due("the trace stays", x.trace(5), 20);
        C.due("the fault stays", x.fault(), 1);
        C.due("status stays", x.status(), 2);
        C.due("rows stay", x.purses(0, 0, 0, 1, 0), 4);
        // Kept of an isle that is gone, and kept yet when the isle goes on.
        x.isle();
        Check.tell(x, "i0,0,1;hbbbbbbbbbbbbbbb;g1,1;");
        x.isle();
        C.due("one bidder", x.count(1), 1);
        x.restore(1);
        C.due("five", x.count(1), 5);
        C.due("the one ahead of the gift", x.cell(8, 1), 0);
        x.hours(6);
        x.restore(1);
        C.due("its hour", x.count(4), 1);
        x.restore(0);
        C.due("behind the gift", x.cell(8, 1), 1);
        C.due("kept anew, over the one before", x.restore(1) + x.image(0), 2);
        x.hours(1);
        x.restore(0);
        C.due("the new one", x.cell(8, 1), 0);
    }

    private static void kindsAre1To5() {
        for (int one = 0; one < 5; one++) {
            int bidder = one;
            RICH.asked("kind of " + one, x -> x.kind(bidder), one + 1);
        }
        TideInches x = Check.isle("i0,0,1;hbbbbbbbbbbbbbbb;l1,1;g1,1;z1,1;a1,1;b1,1;");
        for (int one = 0; one < 5; one++) {
            C.due("kind of " + one + ", turned", x.kind(one), 5 - one);
        }
    }

    private static void asIsOf0To5() {
        RICH.askedOfRows("0", x -> x.as(4, 0), 4);
        RICH.askedOfRows("5", x -> x.as(4, 5), 4);
        for (int kind : new int[] {-1, 6, 31, 32, MOST, LEAST}) {
            RICH.refused("kind " + kind, x -> x.as(0, kind), BAD);
            RICH.refused("kind " + kind + " of none", x -> x.as(5, kind), BAD);
            BARE.refused("kind " + kind + " without an isle", x -> x.as(0, kind), BAD);
        }
    }

    private static void asIsWhatItIs() {
        // BIDDER; BUYER, ABBEY, SLEEPER below it; GOAT, SEAL below it.
        int[] above = {-1, 0, 1, 1, 0, 4};
        for (int one = 0; one < 5; one++) {
            for (int kind = 0; kind < 6; kind++) {
                int bidder = one;
                int taken = kind;
                boolean is = false;
                for (int k = one + 1; k >= 0; k = above[k]) {
                    is |= k == kind;
                }
                if (is) {
                    RICH.askedOfRows(one + " as " + kind, x -> x.as(bidder, taken), one);
                } else {
                    RICH.refused(one + " as " + kind, x -> x.as(bidder, taken), KIND);
                }
            }
        }
    }

    private static void asksAreTwo() {
        for (int what : NO_CHOICE) {
            RICH.refused("ask " + what, x -> x.ask(0, what), BAD);
        }
        C.due("0", Twins.rich().ask(0, 0), 40 + 0 + 7);
        C.due("1", Twins.rich().ask(0, 1), 7);
    }

    /** The answer, and the BODIES in THE TRACE, and no more. */
    private static void begun(String sort, int what, int due, int... bodies) {
        // Bidder 2 has 10 pence and home 9.
        TideInches x = Check.isle("i0,0,1;hbbbbbbbbbbbbbbb;b99,0;l98,1;" + sort + "10,9;b97,2;");
        C.due(sort + ", " + what, x.ask(2, what), due);
        for (int i = 0; i < 18; i++) {
            C.due(sort + ", " + what + ": body " + i, x.trace(i), i < bodies.length ? bodies[i] : NONE);
        }
        C.due("ahead of the first", x.trace(-1), NONE);
    }

    private static void eachBodyBegins() {
        begun("b", 0, 10 + 2 + 9, 11, 10, 21, 20);
        begun("a", 0, -(10 + 2 * (2 + 9)), 12, 11, 10, 24, 21, 20);
        begun("z", 0, 10 + (2 + 9 - 1000), 11, 10, 22, 21, 20);
        begun("g", 0, 10 - 100, 13, 10);
        begun("l", 0, 2 * (10 - 100), 14, 13, 10);
        begun("b", 1, 2 + 9, 21, 20);
        begun("a", 1, 2 * (2 + 9), 24, 21, 20);
        begun("z", 1, 2 + 9 - 1000, 22, 21, 20);
        begun("g", 1, 2 - (10 - 100), 23, 20, 13, 10);
        begun("l", 1, 2 - 2 * (10 - 100), 23, 20, 14, 13, 10);
    }

    private static void theTraceIsEmptyAheadOfAnAsk() {
        TideInches x = Twins.rich();
        C.due("six", x.trace(5), 20);
        x.ask(3, 0);
        C.due("anew", x.trace(0), 13);
        C.due("anew", x.trace(1), 10);
        C.due("two alone", x.trace(2), NONE);
        C.due("nor five", x.trace(5), NONE);
        x.ask(3, 0);
        C.due("not behind it", x.trace(2), NONE);
        C.due("BAD", x.ask(5, 0), BAD);
        C.due("where that is refused it stays", x.trace(1), 10);
        C.due("BAD", x.ask(1, 2), BAD);
        C.due("where that is refused it stays", x.trace(0), 13);
        C.due("no more", x.trace(2), NONE);
    }

    private static void theTraceIsOfTheFirst16() {
        NEW.asked("nothing at first", x -> x.trace(0), NONE);
        BARE.asked("nothing yet", x -> x.trace(0), NONE);
        RICH.asked("the first", x -> x.trace(0), 12);
        RICH.asked("the last", x -> x.trace(5), 20);
        for (int i : new int[] {-1, 6, 15, 16, 17, MOST, LEAST}) {
            RICH.asked("number " + i, x -> x.trace(i), NONE);
        }
        // Many asks do not fill it: it is empty ahead of each.
        TideInches x = Twins.rich();
        for (int i = 0; i < 20; i++) {
            x.ask(1, 0);
        }
        C.due("the last of the latest", x.trace(5), 20);
        C.due("and none behind it", x.trace(6), NONE);
    }

    private static void countsAreEight() {
        int[] ofRich = {4, 5, 2, 2, 1, 256 + 512 + 4, 6, 30};
        int[] ofLate = {4, 5, 4, 2, 999, 128 + 64, 24, 100};
        int[] ofBare = {4, 0, 0, 0, 0, 0, 0, 30};
        for (int k = 0; k < 8; k++) {
            int what = k;
            RICH.asked("count " + k, x -> x.count(what), ofRich[k]);
            LATE.asked("count " + k, x -> x.count(what), ofLate[k]);
            BARE.asked("count " + k, x -> x.count(what), ofBare[k]);
            NEW.asked("count " + k, x -> x.count(what), 0);
        }
        for (int what : new int[] {-1, 8, MOST, LEAST}) {
            RICH.refused("count " + what, x -> x.count(what), BAD);
            NEW.refused("count " + what, x -> x.count(what), BAD);
        }
    }

    private static void statusIsTold() {
        NEW.asked("0 at first", TideInches::status, 0);
        RICH.asked("PLACE", TideInches::status, 2);
        LATE.asked("PLACE", TideInches::status, 2);
        TideInches x = Twins.rich();
        C.due("no such", x.as(3, 5), KIND);
        C.due("KIND", x.status(), 3);
        C.due("told again", x.status(), 3);
        // Calls with neither a ROW nor as() leave it, whatever they answer.
        x.feed(1);
        x.feed(256);
        x.isle();
        x.undo();
        x.hours(1);
        x.hours(0);
        x.bid(0, 7);
        x.bid(0, 7);
        x.raise(0, 7);
        x.give(0, 1, 7);
        x.home(0, 0);
        x.drawn(9, 9, 0);
        x.image(0);
        x.restore(0);
        x.ask(0, 0);
        x.kind(0);
        x.count(0);
        C.due("KIND yet", x.status(), 3);
        C.due("no finding", x.as(0, 0) + x.status(), 0);
    }
}
