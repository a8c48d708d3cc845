/** Promises 9 to 16: what is done on the isle, and undone. */
public final class ActsTest {
    private static final int NONE = -1000000, BAD = -1000001, STATE = -1000002, FULL = -1000003;
    // Heights: 0 2 3 2 0 / 3 6 9 5 1 / 0 4 8 4 2. Level 1 at first, 2 3 4 5 6 7 6 5 4 3 2 behind.
    private static final String ISLE = "i1,7,2;hacdcadgjfbaeiec;b50,7;a20,6;z30,12;g9,8;l5,0;";
    private static final Check C = new Check();

    public static void main(String[] args) {
        noIsleNoActs();
        hoursPass();
        hoursRefuse();
        bidsOfEachKind();
        bidRefuses();
        heldIsLost();
        stonesArePut();
        cellsAreGiven();
        actsAreUndone();
        oldActsAreForgotten();
        biddersAreTold();
        cellsAreTold();
        pricesAreTold();
        C.end();
    }

    private static void noIsleNoActs() {
        TideInches x = new TideInches();
        C.due("hours", x.hours(1), STATE);
        C.due("hours, STATE ahead of BAD", x.hours(0), STATE);
        C.due("undo", x.undo(), STATE);
        C.due("bid", x.bid(0, 0), BAD);
        C.due("raise", x.raise(0, 0), BAD);
        C.due("give", x.give(0, 1, 0), BAD);
        C.due("bidder", x.bidder(0, 0), BAD);
        C.due("price", x.price(0, 0), BAD);
        C.due("cell", x.cell(0, 0), STATE);
        C.due("cell, STATE ahead of BAD", x.cell(15, 9), STATE);
    }

    private static void hoursPass() {
        TideInches x = Check.isle(ISLE);
        int[] levels = {1, 2, 3, 4, 5, 6, 7, 6, 5, 4, 3, 2, 1, 2};
        for (int hour = 0; hour < levels.length; hour++) {
            C.due("hour", x.count(4), hour);
            C.due("level in " + hour, x.count(2), levels[hour]);
            C.due("none held", x.hours(1), 0);
        }
        TideInches y = Check.isle(ISLE);
        y.bid(0, 7);
        y.bid(1, 6);
        C.due("six hours", y.hours(6), 128);
        C.due("an act each", y.count(6), 8);
    }

    private static void hoursRefuse() {
        TideInches x = Check.isle(ISLE);
        C.due("0", x.hours(0), BAD);
        C.due("-1", x.hours(-1), BAD);
        C.due("25", x.hours(25), BAD);
        C.due("far", x.hours(Integer.MAX_VALUE), BAD);
        C.due("no act", x.count(6), 0);
        for (int i = 0; i < 41; i++) {
            C.due("24", x.hours(24), 0);
        }
        C.due("984", x.count(4), 984);
        C.due("above 999", x.hours(16), FULL);
        C.due("BAD ahead of FULL", x.hours(25), BAD);
        C.due("984 still", x.count(4), 984);
        C.due("999", x.hours(15), 0);
        C.due("one more", x.hours(1), FULL);
        C.due("999 still", x.count(4), 999);
        C.due("level in 999, 3 left over", x.count(2), 4);
    }

    private static void bidsOfEachKind() {
        TideInches x = Check.isle(ISLE);
        C.due("buyer", x.bid(0, 8), 40);
        C.due("abbey", x.bid(1, 7), 11);
        C.due("sleeper", x.bid(2, 12), 13);
        C.due("goat", x.bid(3, 6), 7);
        C.due("seal", x.bid(4, 9), 5);
        C.due("seal, low", x.bid(4, 0), 5);
        C.due("held", x.count(5), 256 + 128 + 4096 + 64 + 512 + 1);
        C.due("acts", x.count(6), 6);
        TideInches y = Check.isle("i0,0,3;hdaaaaaaaaaaaaaa;a4,0;a3,0;");
        C.due("half of 9, cut", y.bid(0, 0), 0);
    }

    private static void bidRefuses() {
        TideInches x = Check.isle(ISLE);
        C.due("bidder -1", x.bid(-1, 0), BAD);
        C.due("bidder 5", x.bid(5, 0), BAD);
        C.due("cell -1", x.bid(0, -1), BAD);
        C.due("cell 15", x.bid(0, 15), BAD);
        x.bid(0, 7);
        C.due("held", x.bid(1, 7), STATE);
        C.due("held by itself", x.bid(0, 7), STATE);
        C.due("wet", x.bid(0, 9), STATE);
        C.due("wet for a goat", x.bid(3, 4), STATE);
        C.due("dry for a seal", x.bid(4, 1), STATE);
        C.due("too dear for a goat, not", x.bid(3, 12), 7);
        x.bid(3, 11);
        x.bid(3, 13);
        x.bid(3, 14);
        C.due("1 is less than 2", x.bid(3, 1), FULL);
        C.due("wet ahead of dear", x.bid(3, 0), STATE);
        C.due("purse", x.bidder(3, 0), 1);
        C.due("acts", x.count(6), 5);
        TideInches y = Check.isle("i0,0,3;hdaaaaaaaaaaaaaa;b8,0;z9,0;b9,0;");
        C.due("8 of 9", y.bid(0, 0), FULL);
        C.due("9 of 10", y.bid(1, 0), FULL);
        C.due("9 of 9", y.bid(2, 0), 0);
        C.due("not its money either", y.bid(0, 0), STATE);
    }

    private static void heldIsLost() {
        TideInches x = Check.isle("i0,6,1;hddddddddddaaaaa;b9,0;a9,0;z9,0;g9,0;l9,0;");
        x.bid(0, 0);
        x.bid(1, 1);
        x.bid(2, 2);
        x.bid(3, 3);
        x.bid(4, 10);
        C.due("level 2", x.hours(2), 15 + 1024);
        C.due("level 3: just wet", x.hours(1), 4 + 1024);
        C.due("level 4: deep by 1", x.hours(1), 4 + 1024);
        C.due("level 5: deep by 2", x.hours(1), 1024);
        TideInches y = Check.isle("i0,6,1;hbbbbbbbbbbbbbbb;b9,0;l9,0;");
        y.hours(10);
        C.due("a seal, wet at level 2", y.bid(1, 5), 9);
        C.due("just wet at level 1", y.hours(1), 32);
        C.due("dry at level 0", y.hours(1), 0);
        C.due("no money back", y.bidder(1, 0), 9);
    }

    private static void stonesArePut() {
        TideInches x = Check.isle(ISLE);
        x.bid(0, 8);
        x.bid(4, 9);
        C.due("bidder -1", x.raise(-1, 8), BAD);
        C.due("bidder 5", x.raise(5, 8), BAD);
        C.due("cell -1", x.raise(0, -1), BAD);
        C.due("cell 15", x.raise(0, 15), BAD);
        C.due("nobody's", x.raise(0, 7), STATE);
        C.due("another one's", x.raise(1, 8), STATE);
        for (int height = 6; height <= 9; height++) {
            C.due("stones", x.raise(0, 8), height);
        }
        C.due("9", x.raise(0, 8), FULL);
        C.due("9 still", x.cell(8, 0), 9);
        C.due("STATE ahead of FULL", x.raise(1, 8), STATE);
        C.due("purse stays", x.bidder(0, 0), 40);
        C.due("a seal's, dry then", x.raise(4, 9), 2);
        C.due("dry", x.cell(9, 2), 1);
        C.due("nothing is lost by it", x.cell(9, 1), 4);
        C.due("but level 2: wet again", x.hours(1), 768);
        C.due("a seal's again", x.raise(4, 9), 3);
        C.due("and again", x.raise(4, 9), 4);
        C.due("lost by the hour: level 3", x.hours(1), 256);
    }

    private static void cellsAreGiven() {
        TideInches x = Check.isle(ISLE);
        x.bid(0, 8);
        x.bid(0, 7);
        x.bid(3, 6);
        C.due("from -1", x.give(-1, 0, 8), BAD);
        C.due("from 5", x.give(5, 0, 8), BAD);
        C.due("to -1", x.give(0, -1, 8), BAD);
        C.due("to 5", x.give(0, 5, 8), BAD);
        C.due("alike", x.give(0, 0, 8), BAD);
        C.due("cell -1", x.give(0, 1, -1), BAD);
        C.due("cell 15", x.give(0, 1, 15), BAD);
        C.due("nobody's", x.give(0, 1, 9), STATE);
        C.due("another one's", x.give(0, 1, 6), STATE);
        C.due("given", x.give(0, 3, 8), 256 + 64);
        C.due("whose", x.cell(8, 1), 3);
        C.due("left", x.bidder(0, 2), 128);
        C.due("no purse changes", x.bidder(0, 0), 22);
        C.due("no purse changes", x.bidder(3, 0), 7);
        C.due("dry, to a seal", x.give(0, 4, 7), 128);
        C.due("held yet", x.cell(7, 1), 4);
        C.due("lost by the hour", x.hours(1), 256 + 64);
    }

    private static void actsAreUndone() {
        TideInches x = Check.isle(ISLE);
        x.bid(0, 8);
        x.bid(3, 11);
        x.raise(0, 8);
        x.give(0, 1, 8);
        x.hours(4);
        C.due("acts", x.count(6), 8);
        C.due("11 is lost", x.bidder(3, 2), 0);
        C.due("hour 3", x.undo(), 7);
        C.due("hour", x.count(4), 3);
        C.due("still lost", x.bidder(3, 2), 0);
        C.due("hour 2", x.undo(), 6);
        C.due("held again", x.bidder(3, 2), 2048);
        C.due("hour 1", x.undo(), 5);
        C.due("hour 0", x.undo(), 4);
        C.due("whose", x.cell(8, 1), 1);
        C.due("not given", x.undo(), 3);
        C.due("whose then", x.cell(8, 1), 0);
        C.due("no stones", x.undo(), 2);
        C.due("height", x.cell(8, 0), 5);
        C.due("no bid", x.undo(), 1);
        C.due("purse", x.bidder(3, 0), 9);
        C.due("nobody's", x.cell(11, 1), NONE);
        C.due("no bid", x.undo(), 0);
        C.due("purse", x.bidder(0, 0), 50);
        C.due("none", x.undo(), STATE);
        x.hours(1);
        C.due("another act", x.undo(), 0);
    }

    private static void oldActsAreForgotten() {
        TideInches x = Check.isle(ISLE);
        x.bid(0, 7);
        C.due("24 hours", x.hours(24), 128);
        C.due("24 acts", x.count(6), 24);
        for (int left = 23; left >= 0; left--) {
            C.due("undo", x.undo(), left);
        }
        C.due("none", x.undo(), STATE);
        C.due("the bid stays", x.bidder(0, 0), 32);
        C.due("held", x.count(5), 128);
        C.due("hour", x.count(4), 0);
        x.hours(20);
        x.undo();
        x.hours(20);
        C.due("24 again", x.count(6), 24);
        for (int left = 23; left >= 0; left--) {
            C.due("undo", x.undo(), left);
        }
        C.due("hour 39 less 24", x.count(4), 15);
        TideInches y = Check.isle(ISLE);
        y.bid(0, 7);
        y.hours(23);
        for (int i = 0; i < 24; i++) {
            y.undo();
        }
        C.due("a bid just kept", y.bidder(0, 0), 50);
    }

    private static void biddersAreTold() {
        TideInches x = Check.isle(ISLE);
        C.due("purse", x.bidder(2, 0), 30);
        C.due("home", x.bidder(2, 1), 12);
        C.due("nothing", x.bidder(2, 2), 0);
        x.bid(2, 12);
        x.bid(2, 14);
        C.due("cells", x.bidder(2, 2), 4096 + 16384);
        C.due("purse", x.bidder(2, 0), 30 - 17 - 5);
        C.due("another one", x.bidder(1, 2), 0);
        C.due("bidder -1", x.bidder(-1, 0), BAD);
        C.due("bidder 5", x.bidder(5, 0), BAD);
        C.due("what -1", x.bidder(0, -1), BAD);
        C.due("what 3", x.bidder(0, 3), BAD);
        C.due("the third of two", Check.isle("i0,5,1;habcdefghijabcde;b1,1;b1,1;").bidder(2, 0), BAD);
    }

    private static void cellsAreTold() {
        TideInches x = Check.isle(ISLE);
        x.bid(0, 8);
        x.bid(4, 9);
        C.due("height", x.cell(8, 0), 5);
        C.due("who", x.cell(8, 1), 0);
        C.due("who", x.cell(9, 1), 4);
        C.due("nobody", x.cell(7, 1), NONE);
        C.due("dry", x.cell(8, 2), 1);
        C.due("just wet", x.cell(9, 2), 0);
        C.due("just wet, no deep", x.cell(9, 3), 0);
        C.due("deep", x.cell(10, 3), 1);
        C.due("dry, no deep", x.cell(7, 3), 0);
        x.hours(6);
        C.due("deep by 7", x.cell(10, 3), 7);
        C.due("deep by 2", x.cell(8, 3), 2);
        C.due("8 above 7", x.cell(12, 2), 1);
        C.due("cell -1", x.cell(-1, 0), BAD);
        C.due("cell 15", x.cell(15, 0), BAD);
        C.due("what -1", x.cell(0, -1), BAD);
        C.due("what 4", x.cell(0, 4), BAD);
    }

    private static void pricesAreTold() {
        TideInches x = Check.isle("i1,7,3;hacdcadgjfbaeiec;b50,7;a20,6;z30,12;g9,8;l5,0;");
        C.due("buyer", x.price(0, 8), 15);
        C.due("abbey, cut", x.price(1, 8), 7);
        C.due("sleeper", x.price(2, 8), 16);
        C.due("goat", x.price(3, 8), 3);
        C.due("seal, dry", x.price(4, 8), NONE);
        C.due("seal, wet", x.price(4, 9), 0);
        C.due("buyer, wet", x.price(0, 9), NONE);
        C.due("abbey, wet", x.price(1, 9), NONE);
        C.due("sleeper, wet", x.price(2, 9), NONE);
        C.due("goat, wet", x.price(3, 9), NONE);
        x.bid(0, 8);
        C.due("held makes no other price", x.price(0, 8), 15);
        C.due("nor for another", x.price(1, 8), 7);
        C.due("dearer than its purse", x.price(3, 7), 3);
        C.due("dearer than its purse", x.price(1, 7), 13);
        x.raise(0, 8);
        C.due("by stones", x.price(2, 8), 19);
        C.due("bidder -1", x.price(-1, 8), BAD);
        C.due("bidder 5", x.price(5, 8), BAD);
        C.due("cell -1", x.price(0, -1), BAD);
        C.due("cell 15", x.price(0, 15), BAD);
    }
}
