/** The boundaries that "Terms", part 2, names of ACTS, and promises 9 to 16: a method a sentence. */
public final class BoundsActsTest {
    private static final int NONE = -1000000, BAD = -1000001, STATE = -1000002, FULL = -1000003;
    private static final int MOST = Integer.MAX_VALUE, LEAST = Integer.MIN_VALUE;
    private static final Check C = new Check();
    private static final Twins RICH = new Twins(C, Twins::rich);
    private static final Twins LATE = new Twins(C, Twins::late);
    private static final Twins BARE = new Twins(C, Twins::bare);
    private static final Twins NEW = new Twins(C, TideInches::new);
    // Always dry, but cells 1 to 5: heights 9 0 0 0 0 / 0 1 2 3 4 / 5 6 7 8 8.
    private static final String DRY = "i0,0,3;hjaaaaabcdefghii;b99,0;a3,0;z4,0;g3,0;l0,0;";

    public static void main(String[] args) {
        hoursAre1To24();
        hourIs999AtMost();
        hoursAreRefusedWithoutAnIsle();
        anHourIsAnActEach();
        bidsAreForWhatNobodyHolds();
        pursesMustNotBeLessThanPrice();
        bidsAreRefusedInTheirOrder();
        heightsAre9AtMost();
        stonesAreForWhatItHolds();
        giftsAreToAnotherOne();
        giftsAreOfWhatItHolds();
        twentyFourAreKept();
        theOldestIsForgotten();
        eachKindOfActIsUndone();
        actsByWhichNothingElseChanges();
        undoIsRefused();
        whatIsRefusedIsNoAct();
        whatIsToldOfBidders();
        whatIsToldOfCells();
        C.end();
    }

    private static void hoursAre1To24() {
        C.due("1", Twins.rich().hours(1), 256 + 512 + 4);
        TideInches x = Twins.rich();
        C.due("24: the seal's alone", x.hours(24), 512);
        C.due("hour 25", x.count(4), 25);
        for (int n : new int[] {0, -1, 25, MOST, LEAST}) {
            RICH.refused(n + " hours", y -> y.hours(n), BAD);
            LATE.refused(n + " hours, BAD ahead of FULL", y -> y.hours(n), BAD);
        }
    }

    private static TideInches inHour(int hour) {
        TideInches x = Check.isle(DRY);
        x.bid(0, 0);
        for (int left = hour; left > 0; left -= 24) {
            x.hours(Math.min(24, left));
        }
        return x;
    }

    private static void hourIs999AtMost() {
        C.due("24 from 975", inHour(975).hours(24), 1);
        new Twins(C, () -> inHour(976)).refused("24 from 976", x -> x.hours(24), FULL);
        C.due("23 from 976", inHour(976).hours(23), 1);
        C.due("1 from 998", inHour(998).hours(1), 1);
        new Twins(C, () -> inHour(998)).refused("2 from 998", x -> x.hours(2), FULL);
        TideInches x = inHour(999);
        C.due("999", x.count(4), 999);
        LATE.refused("1 from 999", y -> y.hours(1), FULL);
        LATE.refused("24 from 999", y -> y.hours(24), FULL);
        C.due("999 yet", x.hours(1) - FULL + x.count(4), 999);
        C.due("undone", x.undo() + x.count(4), 23 + 998);
        C.due("one more then", x.hours(1), 1);
        C.due("none more", x.hours(1), FULL);
        C.due("other acts go on", x.give(0, 1, 0), 1);
    }

    private static void hoursAreRefusedWithoutAnIsle() {
        for (int n : new int[] {1, 24, 0, 25, LEAST}) {
            BARE.refused(n + " hours without an isle", x -> x.hours(n), STATE);
            NEW.refused(n + " hours of a new one", x -> x.hours(n), STATE);
        }
    }

    private static void anHourIsAnActEach() {
        for (int n = 1; n <= 24; n++) {
            TideInches x = Check.isle(DRY);
            x.hours(n);
            C.due("acts of " + n, x.count(6), n);
            C.due("hour", x.count(4), n);
            x.undo();
            C.due("one hour less", x.count(4), n - 1);
            C.due("one act less", x.count(6), n - 1);
        }
    }

    private static void bidsAreForWhatNobodyHolds() {
        RICH.refused("another one's", x -> x.bid(0, 8), STATE);
        RICH.refused("its own", x -> x.bid(1, 8), STATE);
        RICH.refused("a seal's, wet", x -> x.bid(4, 9), STATE);
        TideInches x = Check.isle(DRY);
        C.due("nobody's", x.bid(0, 10), 84);
        C.due("once alone", x.bid(0, 10), STATE);
        x.undo();
        C.due("nobody's again", x.bid(0, 10), 84);
        // Just wet and just dry: cell 14 has 2 inches, cell 2, that the sleeper has, 3, by level 2.
        RICH.refused("just wet", y -> y.bid(0, 14), STATE);
        RICH.refused("just dry, to a seal", y -> y.bid(4, 5), STATE);
        C.due("just dry", Twins.rich().bid(0, 5), 34);
        C.due("just wet, to a seal", Twins.rich().bid(4, 14), 5);
    }

    private static void pursesMustNotBeLessThanPrice() {
        Twins twins = new Twins(C, Twins.told(DRY));
        // 3 an inch: an abbey pays 3 for 2 inches, 4 for 3; a sleeper 4 for 1, 7 for 2; a goat 3 for any.
        C.due("abbey, 3 of 3", Check.isle(DRY).bid(1, 7), 0);
        twins.refused("abbey, 4 of 3", x -> x.bid(1, 8), FULL);
        C.due("sleeper, 4 of 4", Check.isle(DRY).bid(2, 6), 0);
        twins.refused("sleeper, 7 of 4", x -> x.bid(2, 7), FULL);
        C.due("goat, 3 of 3", Check.isle(DRY).bid(3, 0), 0);
        C.due("seal, 0 of 0", Check.isle(DRY).bid(4, 1), 0);
        TideInches x = Check.isle(DRY);
        x.bid(3, 0);
        C.due("goat, 3 of 0", x.bid(3, 6), FULL);
        C.due("buyer, all but one", x.bid(0, 12) + x.bid(0, 13) + x.bid(0, 14) + x.bid(0, 11), 78 + 54 + 30 + 12);
        C.due("buyer, 12 of 12", x.bid(0, 9), 0);
        C.due("buyer, 3 of 0", x.bid(0, 6), FULL);
        for (int purse = 0; purse <= 12; purse++) {
            TideInches y = Check.isle("i0,0,2;hfaaaaaaaaaaaaaa;b" + purse + ",0;");
            C.due("10 of " + purse, y.bid(0, 0), purse >= 10 ? purse - 10 : FULL);
            C.due("held", y.count(5), purse >= 10 ? 1 : 0);
            C.due("acts", y.count(6), purse >= 10 ? 1 : 0);
        }
    }

    private static void bidsAreRefusedInTheirOrder() {
        RICH.refused("BAD bidder ahead of STATE", x -> x.bid(5, 8), BAD);
        RICH.refused("BAD cell, poor", x -> x.bid(4, 15), BAD);
        Twins twins = new Twins(C, () -> {
            TideInches x = Check.isle(DRY);
            x.bid(0, 8);
            return x;
        });
        twins.refused("held ahead of FULL", x -> x.bid(1, 8), STATE);
        twins.refused("wet for one who has nothing", x -> x.bid(3, 1), STATE);
        Twins poor = new Twins(C, Twins.told("i0,0,9;hjaaaaaaaaaaaaaa;b0,0;z0,0;"));
        poor.refused("FULL", x -> x.bid(0, 0), FULL);
        poor.refused("wet ahead of FULL", x -> x.bid(1, 1), STATE);
    }

    private static TideInches withNine() {
        TideInches x = Check.isle(DRY);
        x.bid(0, 0);
        x.bid(0, 13);
        return x;
    }

    private static void heightsAre9AtMost() {
        TideInches x = withNine();
        C.due("8 and 1", x.raise(0, 13), 9);
        C.due("9 and 1", x.raise(0, 13), FULL);
        C.due("9 yet", x.cell(13, 0), 9);
        C.due("acts", x.count(6), 3);
        Twins twins = new Twins(C, BoundsActsTest::withNine);
        twins.refused("9", y -> y.raise(0, 0), FULL);
        twins.refused("BAD ahead of FULL", y -> y.raise(5, 0), BAD);
        twins.refused("STATE ahead of FULL", y -> y.raise(1, 0), STATE);
        TideInches low = Check.isle(DRY);
        low.bid(4, 1);
        for (int height = 1; height <= 9; height++) {
            C.due("from 0 on", low.raise(4, 1), height);
        }
        C.due("from 9 on", low.raise(4, 1), FULL);
    }

    private static void stonesAreForWhatItHolds() {
        RICH.refused("nobody's", x -> x.raise(1, 7), STATE);
        RICH.refused("given away", x -> x.raise(0, 8), STATE);
        C.due("given to it", Twins.rich().raise(1, 8), 7);
        C.due("wet land of a seal", Twins.rich().raise(4, 9), 2);
        BARE.refused("no isle", x -> x.raise(0, 0), BAD);
    }

    private static void giftsAreToAnotherOne() {
        RICH.refused("alike, who has it", x -> x.give(1, 1, 8), BAD);
        RICH.refused("alike, BAD ahead of STATE", x -> x.give(0, 0, 8), BAD);
        RICH.refused("alike, nobody's", x -> x.give(3, 3, 7), BAD);
        C.due("another one", Twins.rich().give(1, 0, 8), 256);
        C.due("one who could not buy it", Twins.rich().give(1, 4, 8), 256 + 512);
        TideInches x = Twins.rich();
        x.give(1, 2, 8);
        C.due("who has two then", x.bidder(2, 2), 256 + 4);
        C.due("who pays nothing", x.bidder(2, 0), 23);
        C.due("who is paid nothing", x.bidder(1, 0), 20);
    }

    private static void giftsAreOfWhatItHolds() {
        RICH.refused("given away", x -> x.give(0, 2, 8), STATE);
        RICH.refused("nobody's", x -> x.give(0, 1, 7), STATE);
        RICH.refused("the taker's own", x -> x.give(0, 1, 8), STATE);
        RICH.refused("BAD taker ahead of STATE", x -> x.give(0, 5, 7), BAD);
    }

    /** A bid, then so many gifts of it, to and fro. */
    private static TideInches given(int gifts) {
        TideInches x = Check.isle(DRY);
        x.bid(0, 6);
        for (int i = 0; i < gifts; i++) {
            x.give(i % 2, 1 - i % 2, 6);
        }
        return x;
    }

    private static void twentyFourAreKept() {
        for (int gifts = 0; gifts <= 30; gifts++) {
            C.due("acts of 1 and " + gifts, given(gifts).count(6), Math.min(24, gifts + 1));
        }
        TideInches all = given(23);
        for (int left = 23; left >= 0; left--) {
            C.due("undone", all.undo(), left);
        }
        C.due("the bid, too", all.count(5), 0);
        C.due("the purse, too", all.bidder(0, 0), 99);
        C.due("none", all.undo(), STATE);
    }

    private static void theOldestIsForgotten() {
        for (int gifts = 24; gifts <= 60; gifts += 12) {
            TideInches x = given(gifts);
            for (int left = 23; left >= 0; left--) {
                C.due("undone", x.undo(), left);
                C.due("whose then", x.cell(6, 1), left % 2);
            }
            C.due("none", x.undo(), STATE);
            C.due("the bid stays", x.cell(6, 1), 0);
            C.due("and what it cost", x.bidder(0, 0), 96);
            C.due("a new act", x.give(0, 1, 6) + x.count(6), 65);
            C.due("undone", x.undo(), 0);
            C.due("whose then", x.cell(6, 1), 0);
        }
        // What was forgotten does not come again when room is made by undoing.
        TideInches y = given(30);
        y.undo();
        y.undo();
        y.hours(1);
        C.due("23", y.count(6), 23);
        y.hours(3);
        C.due("24", y.count(6), 24);
        for (int left = 23; left >= 0; left--) {
            C.due("undone", y.undo(), left);
        }
        C.due("none", y.undo(), STATE);
    }

    private static void eachKindOfActIsUndone() {
        TideInches x = Check.isle("i0,6,1;hcbaaaaaaaaaaaaa;b9,0;g9,0;");
        x.bid(0, 0);
        x.bid(1, 1);
        x.raise(0, 0);
        x.give(0, 1, 0);
        C.due("lost in the first hour: cell 1", x.hours(1), 1);
        C.due("undone: the hour", x.undo(), 4);
        C.due("hour 0", x.count(4), 0);
        C.due("what was lost is held", x.cell(1, 1), 1);
        C.due("undone: the gift", x.undo(), 3);
        C.due("whose", x.cell(0, 1), 0);
        C.due("undone: the stones", x.undo(), 2);
        C.due("height", x.cell(0, 0), 2);
        C.due("undone: the goat's bid", x.undo(), 1);
        C.due("purse", x.bidder(1, 0), 9);
        C.due("the other one's stays", x.count(5), 1);
        C.due("undone: the bid", x.undo(), 0);
        C.due("purse", x.bidder(0, 0), 9);
        C.due("nobody's", x.count(5), 0);
    }

    private static void actsByWhichNothingElseChanges() {
        TideInches x = Check.isle(DRY);
        C.due("an hour of no loss", x.hours(1) + x.count(6), 1);
        C.due("a bid of no price", x.bid(4, 1) + x.count(6), 2);
        C.due("24 hours of no loss", x.hours(24) + x.count(6), 2 + 24);
        C.due("undone", x.undo(), 23);
        C.due("held yet", x.count(5), 2);
        TideInches y = Check.isle("i0,0,1;hbaaaaaaaaaaaaaa;a0,0;");
        C.due("half of 1 is nothing", y.bid(0, 0) + y.count(6), 1);
        C.due("undone", y.undo() + y.count(5), 0);
    }

    private static void undoIsRefused() {
        NEW.refused("a new one", TideInches::undo, STATE);
        BARE.refused("no isle", TideInches::undo, STATE);
        new Twins(C, Twins.told(DRY)).refused("no act", TideInches::undo, STATE);
        new Twins(C, () -> {
            TideInches x = Twins.rich();
            x.restore(0);
            return x;
        }).refused("restored", TideInches::undo, STATE);
        new Twins(C, () -> {
            TideInches x = given(3);
            x.undo();
            x.undo();
            x.undo();
            x.undo();
            return x;
        }).refused("all undone", TideInches::undo, STATE);
        C.due("the last one", given(0).undo(), 0);
    }

    private static void whatIsRefusedIsNoAct() {
        TideInches x = Twins.late();
        C.due("24", x.count(6), 24);
        x.hours(1);
        x.hours(25);
        x.bid(0, 7);
        x.bid(0, 99);
        x.raise(3, 7);
        x.raise(0, 7);
        x.give(3, 3, 7);
        x.give(0, 3, 7);
        x.image(0);
        C.due("24 yet", x.count(6), 24);
        C.due("the hour is undone", x.undo(), 23);
        C.due("998", x.count(4), 998);
        C.due("the bid is undone", x.undo(), 22);
        C.due("held: the goat's", x.count(5), 128);
        for (int left = 21; left >= 0; left--) {
            C.due("undone", x.undo(), left);
            C.due("hour", x.count(4), 976 + left);
        }
        C.due("none", x.undo(), STATE);
    }

    private static void whatIsToldOfBidders() {
        RICH.asked("purse", x -> x.bidder(2, 0), 23);
        RICH.asked("home", x -> x.bidder(0, 1), 7);
        RICH.asked("cells", x -> x.bidder(4, 2), 512);
        RICH.asked("no cells", x -> x.bidder(0, 2), 0);
        for (int what : new int[] {-1, 3, MOST, LEAST}) {
            RICH.refused("bidder, what " + what, x -> x.bidder(0, what), BAD);
            RICH.refused("cell, what " + (what == 3 ? 4 : what), x -> x.cell(0, what == 3 ? 4 : what), BAD);
        }
    }

    private static void whatIsToldOfCells() {
        RICH.asked("height", x -> x.cell(8, 0), 6);
        RICH.asked("who", x -> x.cell(8, 1), 1);
        RICH.asked("nobody", x -> x.cell(7, 1), NONE);
        RICH.asked("bidder 0, not nobody", x -> x.price(0, 8), 12);
        RICH.asked("dry", x -> x.cell(5, 2), 1);
        RICH.asked("just wet", x -> x.cell(14, 2), 0);
        RICH.asked("just wet, deep by 0", x -> x.cell(14, 3), 0);
        RICH.asked("deep by 1", x -> x.cell(9, 3), 1);
        RICH.asked("deep by 2", x -> x.cell(10, 3), 2);
        RICH.asked("dry, deep by 0", x -> x.cell(7, 3), 0);
        RICH.asked("a price", x -> x.price(3, 7), 2);
        RICH.asked("no price", x -> x.price(3, 14), NONE);
        for (int cell : new int[] {0, 15, -1}) {
            for (int what : new int[] {0, 3, 4, -1}) {
                BARE.refused("cell " + cell + ", " + what + " without an isle", x -> x.cell(cell, what), STATE);
            }
        }
        TideInches x = Check.isle(DRY);
        x.bid(0, 8);
        C.due("bidder 0 has it", x.cell(8, 1), 0);
        x.hours(24);
        C.due("bidder 0 has it yet", x.cell(8, 1), 0);
    }
}
