/** Promises 17 to 28: what is foretold; nothing changes by it. */
public final class ForetoldTest {
    private static final int NONE = -1000000, BAD = -1000001, STATE = -1000002;
    private static final int NULL = -1000011, PLACE = -1000012;
    // Heights: 0 2 3 2 0 / 3 6 9 5 1 / 0 4 8 4 2. Level 1 at first, 2 3 4 5 6 7 6 5 4 3 2 behind.
    private static final String ISLE = "i1,7,2;hacdcadgjfbaeiec;b50,7;a20,6;z30,12;g9,8;l5,0;";
    private static final String FLAT = "i0,9,1;hggggggggggggggg;b1,1;";
    private static final Check C = new Check();

    public static void main(String[] args) {
        noIsle();
        aheadTells();
        partsAreCounted();
        staysTells();
        whenTells();
        cutsTell();
        homeIsReached();
        homeIsShut();
        buyTakesMost();
        buyBreaksTies();
        harvestTakesLeast();
        raisedTells();
        raisedRefuses();
        whoTells();
        whoRefuses();
        ringsAreRound();
        pursesAreCounted();
        pursesRefuse();
        drawnHoursPass();
        findingsAreTold();
        C.end();
    }

    private static void noIsle() {
        TideInches x = new TideInches();
        C.due("ahead", x.ahead(-1, 9), STATE);
        C.due("stays", x.stays(-1), STATE);
        C.due("when", x.when(-1, 5), STATE);
        C.due("cuts", x.cuts(), STATE);
        C.due("home", x.home(0, 0), BAD);
        C.due("buy", x.buy(0, 0), BAD);
        C.due("harvest", x.harvest(0, 1, 1), BAD);
        C.due("raised", x.raised(9, 0, 0), STATE);
        C.due("raised, STATE ahead of NULL", x.raised(0, 0, 1), STATE);
        C.due("who", x.who(9, 0, 0), STATE);
        C.due("ring", x.ring(-1, 2), STATE);
        C.due("purses, BAD ahead of NULL", x.purses(0, 0, 0, 1, 0), BAD);
        C.due("drawn", x.drawn(-1, 0, 2), STATE);
        C.due("no finding", x.status(), 0);
    }

    private static void aheadTells() {
        TideInches x = Check.isle("i2,7,1;habcdefghijabcde;b1,1;");
        // Five sixths, cut: 2, 2.8, 3.6, 4.5, 5.3, 6.1, 7.
        int[] levels = {2, 2, 3, 4, 5, 6, 7, 6, 5, 4, 3, 2};
        for (int n = 0; n <= 60; n++) {
            C.due("level behind " + n, x.ahead(n, 0), levels[n % 12]);
        }
        x.hours(5);
        for (int n = 0; n <= 60; n++) {
            C.due("level behind 5 and " + n, x.ahead(n, 0), levels[(n + 5) % 12]);
        }
        TideInches y = Check.isle(ISLE);
        C.due("dry now", y.ahead(0, 1), 31214);
        C.due("dry behind 2", y.ahead(2, 1), 64 + 128 + 256 + 2048 + 4096 + 8192);
        C.due("dry behind 6", y.ahead(6, 1), 128 + 4096);
        C.due("n -1", y.ahead(-1, 0), BAD);
        C.due("n 61", y.ahead(61, 0), BAD);
        C.due("what -1", y.ahead(0, -1), BAD);
        C.due("what 3", y.ahead(0, 3), BAD);
        C.due("nothing passes", y.count(4), 0);
    }

    private static void partsAreCounted() {
        TideInches x = Check.isle(ISLE);
        C.due("one", x.ahead(0, 2), 1);
        TideInches chess = Check.isle("i0,9,1;hbababababababab;b1,1;");
        C.due("eight", chess.ahead(0, 2), 8);
        C.due("none", chess.ahead(6, 2), 0);
        // b at 4 and 5 are not beside each other: a row ends between them.
        C.due("an end of a row", Check.isle("i0,9,1;haaaabbaaaaaaaaa;b1,1;").ahead(0, 2), 2);
        C.due("above each other", Check.isle("i0,9,1;haaaabaaaabaaaab;b1,1;").ahead(0, 2), 1);
        C.due("a snake", Check.isle("i0,9,1;hbbbbbaaaabbbbbb;b1,1;").ahead(0, 2), 1);
        C.due("a bay", Check.isle("i0,9,1;hbbbbbbaaabbbabb;b1,1;").ahead(0, 2), 1);
        C.due("two bays", Check.isle("i0,9,1;hbbabbbaaabbbabb;b1,1;").ahead(0, 2), 2);
    }

    private static void staysTells() {
        TideInches x = Check.isle(ISLE);
        x.bid(0, 8);
        x.bid(1, 11);
        x.bid(2, 13);
        x.bid(3, 12);
        x.bid(4, 9);
        C.due("buyer, 5", x.stays(8), 4);
        C.due("abbey, 4", x.stays(11), 3);
        C.due("sleeper, 4 at level 6", x.stays(13), 5);
        C.due("never wet", x.stays(12), NONE);
        C.due("seal, 1, never dry again but behind 12", x.stays(9), NONE);
        C.due("nobody", x.stays(7), NONE);
        C.due("cell -1", x.stays(-1), BAD);
        C.due("cell 15", x.stays(15), BAD);
        x.hours(2);
        C.due("less by 2", x.stays(8), 2);
        C.due("less by 2", x.stays(13), 3);
        x.give(3, 4, 12);
        C.due("dry, a seal's", x.stays(12), 1);
        TideInches y = Check.isle("i0,6,1;hbbbbbbbbbbbbbbb;b9,0;l9,0;");
        y.hours(2);
        y.bid(1, 3);
        C.due("a seal at 1, dry in 12", y.stays(3), 10);
    }

    private static void whenTells() {
        TideInches x = Check.isle(ISLE);
        C.due("dry now", x.when(8, 1), 0);
        C.due("5 is wet", x.when(8, 0), 4);
        C.due("1 is wet", x.when(9, 0), 0);
        C.due("1 is never dry", x.when(9, 1), NONE);
        C.due("8 is never wet", x.when(12, 0), NONE);
        C.due("8 is dry", x.when(12, 1), 0);
        x.hours(5);
        C.due("5 is dry again", x.when(8, 1), 4);
        C.due("2 is dry again", x.when(1, 1), 7);
        C.due("wet now", x.when(8, 0), 0);
        C.due("cell -1", x.when(-1, 0), BAD);
        C.due("cell 15", x.when(15, 0), BAD);
        C.due("dry -1", x.when(0, -1), BAD);
        C.due("dry 2", x.when(0, 2), BAD);
    }

    private static void cutsTell() {
        C.due("5 and 14 hang on 6 and 13", Check.isle(ISLE).cuts(), 64 + 8192);
        C.due("a full isle has none", Check.isle("i0,9,1;hbbbbbbbbbbbbbbb;b1,1;").cuts(), 0);
        C.due("a line", Check.isle("i0,9,1;hbbbbbaaaaaaaaaa;b1,1;").cuts(), 2 + 4 + 8);
        C.due("alone", Check.isle("i0,9,1;hbabaaaaaaaaaaaa;b1,1;").cuts(), 0);
        C.due("none", Check.isle("i0,9,1;haaaaaaaaaaaaaaa;b1,1;").cuts(), 0);
        C.due("corners", Check.isle("i0,9,1;hbbaaabaaabaaabb;b1,1;").cuts(), 1 + 16384);
        C.due("in one part of two", Check.isle("i0,9,1;hbbbaaaaaaabbaaa;b1,1;").cuts(), 2);
        TideInches x = Check.isle(ISLE);
        x.hours(2);
        // 6, 7, 8, 11, 12, 13 are dry: two rows of three.
        C.due("what is dry now", x.cuts(), 0);
        x.hours(2);
        // 6, 7, 12 are dry.
        C.due("what is dry then", x.cuts(), 128);
    }

    private static void homeIsReached() {
        TideInches x = Check.isle("i0,0,1;hbbbbbbbbbbbbbbb;b9,14;g9,0;");
        C.due("there", x.home(0, 14), 0);
        C.due("beside", x.home(0, 13), 1);
        C.due("far", x.home(0, 0), 6);
        C.due("back", x.home(1, 14), 6);
        C.due("over an end of a row", x.home(0, 5), 5);
        C.due("bidder -1", x.home(-1, 0), BAD);
        C.due("bidder 2", x.home(2, 0), BAD);
        C.due("cell -1", x.home(0, -1), BAD);
        C.due("cell 15", x.home(0, 15), BAD);
        // Home is wet from 1 on till level 0 in hour 12: it waits on high land beside it.
        TideInches y = Check.isle("i0,6,1;hbjjaaaaaaaaaaaa;b9,0;");
        C.due("a tide is waited for", y.home(0, 1), 12);
        C.due("from the sea, wet then", y.home(0, 5), NONE);
        y.hours(1);
        C.due("an hour less", y.home(0, 2), 11);
        y.hours(11);
        C.due("low tide goes at once: wet behind an hour", y.home(0, 2), 12);
        TideInches z = Check.isle("i0,6,1;hcjjaaaaaaaaaaaa;b9,0;");
        C.due("dry behind an hour", z.home(0, 1), 1);
        C.due("one it begins in may be wet", z.home(0, 5), 1);
        TideInches far = Check.isle("i0,6,1;hajjaaaaaaaaaaaa;b9,0;");
        C.due("never", far.home(0, 1), NONE);
        C.due("but there", far.home(0, 0), 0);
        TideInches late = Check.isle("i2,8,1;hfdfbebjdddjfdjg;b9,2;");
        C.due("25 hours are too many", late.home(0, 8), NONE);
        late.hours(1);
        C.due("24 hours", late.home(0, 8), 24);
    }

    private static void homeIsShut() {
        TideInches x = Check.isle("i0,0,1;hbbbbbaaaaaaaaaa;b9,4;g9,0;l9,0;");
        C.due("along the row", x.home(0, 0), 4);
        x.bid(1, 2);
        C.due("another one's", x.home(0, 0), NONE);
        C.due("its own", x.home(1, 4), 4);
        C.due("begins in another one's", x.home(0, 2), 2);
        C.due("beside home", x.home(0, 3), 1);
        x.bid(1, 4);
        C.due("home is another one's", x.home(0, 3), NONE);
        C.due("home, begun in", x.home(0, 4), 0);
        C.due("a seal goes dry, too", x.home(2, 1), 1);
    }

    private static void buyTakesMost() {
        TideInches x = Check.isle("i0,0,2;hbcdefaaaaaaaaaa;b12,0;a12,0;z12,0;g12,0;l12,0;");
        // Heights 1 2 3 4 5 are dry; to a buyer 2 4 6 8 10.
        C.due("buyer: 6 inches", x.buy(0, 0), 6);
        C.due("buyer: 1 2 3", x.buy(0, 1), 7);
        C.due("abbey: 12 inches of 15", x.buy(1, 0), 12);
        C.due("abbey: 1 2 4 5, not 3 4 5", x.buy(1, 1), 27);
        C.due("sleeper: 5 inches", x.buy(2, 0), 5);
        C.due("goat: all", x.buy(3, 0), 15);
        C.due("goat: all", x.buy(3, 1), 31);
        C.due("seal: no inch", x.buy(4, 0), 0);
        C.due("seal: none", x.buy(4, 1), 0);
        x.bid(3, 4);
        C.due("what nobody holds", x.buy(3, 0), 10);
        C.due("what nobody holds", x.buy(3, 1), 15);
        C.due("bidder -1", x.buy(-1, 0), BAD);
        C.due("bidder 5", x.buy(5, 0), BAD);
        C.due("what -1", x.buy(0, -1), BAD);
        C.due("what 2", x.buy(0, 2), BAD);
        C.due("no act", x.count(6), 1);
        TideInches poor = Check.isle("i0,0,2;hbcdefaaaaaaaaaa;b1,0;b2,0;z2,0;");
        C.due("nothing", poor.buy(0, 0), 0);
        C.due("nothing", poor.buy(0, 1), 0);
        C.due("just", poor.buy(1, 1), 1);
        C.due("2 of 3", poor.buy(2, 0), 0);
        TideInches seal = Check.isle("i4,9,1;hbcdefaaaaaaaaaj;l0,0;");
        C.due("wet ones", seal.buy(0, 0), 10);
        C.due("wet ones with inches alone", seal.buy(0, 1), 15);
        C.due("no price for an inch", Check.isle("i0,0,1;hbaaaaaaaaaaaaaa;b0,0;").buy(0, 0), 0);
        C.due("a price of 1 for an inch", Check.isle("i0,0,1;hbaaaaaaaaaaaaaa;b9,0;").buy(0, 1), 1);
        TideInches two = Check.isle("i1,1,1;hbccaaaaaaaaaaaa;l9,0;b1,0;b99,0;");
        C.due("a seal's", two.buy(0, 1), 1);
        C.due("a poor buyer's behind it", two.buy(1, 1), 0);
        C.due("a rich one's", two.buy(2, 1), 6);
        C.due("a poor one's behind it", two.buy(1, 0), 0);
    }

    private static void buyBreaksTies() {
        TideInches x = Check.isle("i0,0,1;hccccccccccccccc;b3,0;b4,0;");
        C.due("least bits", x.buy(0, 1), 1);
        C.due("least bits of two", x.buy(1, 1), 3);
        // 5 is one cell for 2, or 1 and 4, or 2 and 3: an abbey pays 2, 0 and 2, 1 and 1.
        TideInches y = Check.isle("i0,0,1;hedcbfaaaaaaaaaa;a2,0;");
        // 1 costs 0, 2 and 3 cost 1, 4 and 5 cost 2: most is 1, 2 and 3 or 1 and 5 for 2: both 6 inches.
        C.due("six inches", y.buy(0, 0), 6);
        C.due("least bits of one price", y.buy(0, 1), 2 + 4 + 8);
        TideInches z = Check.isle("i0,0,1;hfedaaaaaaaaaaaa;z10,0;");
        // 5 and 4 cost 11; 5 and 3 cost 10, for 8 inches; 4 and 3 cost 9, for 7.
        C.due("8 inches", z.buy(0, 0), 8);
        C.due("5 and 3", z.buy(0, 1), 5);
        TideInches w = Check.isle("i0,0,1;hdcbaaaaaaaaaaaa;z5,0;");
        // 3 for 4, or 2 and 1 for 5: the least price counts ahead of the least bits.
        C.due("3 inches", w.buy(0, 0), 3);
        C.due("for 4", w.buy(0, 1), 1);
        TideInches v = Check.isle("i0,0,1;hbcdaaaaaaaaaaaa;z5,0;");
        C.due("for 4, of more bits", v.buy(0, 1), 4);
    }

    private static void harvestTakesLeast() {
        TideInches x = Check.isle(ISLE);
        // Dry now and behind 1 (level 2): 3 3 6 9 5 4 8 4.
        C.due("buyer, one", x.harvest(0, 1, 1), 6);
        C.due("buyer, three", x.harvest(0, 3, 1), 6 + 6 + 8);
        C.due("more than its purse", x.harvest(0, 8, 1), 84);
        C.due("more than there are", x.harvest(0, 9, 1), NONE);
        C.due("behind 6", x.harvest(0, 1, 6), 16);
        C.due("both", x.harvest(0, 2, 12), 34);
        C.due("three behind 6", x.harvest(0, 3, 6), NONE);
        C.due("abbey", x.harvest(1, 2, 6), 17);
        // A sleeper keeps 6 at level 7, and loses 5.
        C.due("sleeper", x.harvest(2, 3, 6), 13 + 17 + 19);
        C.due("sleeper, all dry", x.harvest(2, 11, 1), 2 * 48 + 11);
        C.due("goat", x.harvest(3, 8, 1), 16);
        C.due("seal", x.harvest(4, 4, 12), 0);
        C.due("seal", x.harvest(4, 5, 1), NONE);
        x.bid(0, 2);
        C.due("one is held", x.harvest(0, 2, 1), 6 + 8);
        C.due("bidder -1", x.harvest(-1, 1, 1), BAD);
        C.due("bidder 5", x.harvest(5, 1, 1), BAD);
        C.due("k 0", x.harvest(0, 0, 1), BAD);
        C.due("k 16", x.harvest(0, 16, 1), BAD);
        C.due("n 0", x.harvest(0, 1, 0), BAD);
        C.due("n 13", x.harvest(0, 1, 13), BAD);
        C.due("fifteen", Check.isle("i0,0,1;hjbbbbbbbbbbbbbb;b0,0;").harvest(0, 15, 12), 23);
        C.due("fourteen", Check.isle("i0,0,1;hjbbbbbbbbbbbbbb;b0,0;").harvest(0, 14, 12), 14);
        C.due("cell 0 is lost", Check.isle("i0,6,1;hbbbbbbbbbbbbbjj;b0,0;").harvest(0, 1, 1), 9);
    }

    private static void raisedTells() {
        TideInches x = Check.isle(ISLE);
        // Level 2 behind 1, 3 behind 2.
        int behind1 = x.ahead(1, 1);
        int behind2 = x.ahead(2, 1);
        Check.row(x, 0, behind1 | 2, behind2);
        C.due("1, of 2", x.raised(0, 0, 1), 2);
        C.due("1, of 2, not above 3", x.raised(0, 0, 2), 2);
        Check.row(x, 1, behind1, behind2 | 4, behind1);
        C.due("2, of 3, behind 2", x.raised(1, 0, 2), 4);
        C.due("no 9", x.raised(1, 0, 1) & 128, 0);
        C.due("all but 9 that stay as they are", x.raised(1, 0, 1), 32767 - 128 - 2 - 8 - 16384);
        C.due("from item 2 on", x.raised(1, 2, 1), 32767 - 128 - 2 - 8 - 16384);
        Check.row(x, 2, behind1 | 2 | 8);
        C.due("not by one", x.raised(2, 0, 1), 0);
        Check.row(x, 3, behind1 | 1 << 15);
        C.due("no such cell", x.raised(3, 0, 1), 0);
        Check.row(x, 4, behind1 & ~128);
        C.due("none is less dry", x.raised(4, 0, 1), 0);
        x.hours(1);
        Check.row(x, 5, behind2);
        C.due("from now on", x.raised(5, 0, 1), 32767 - 128 - 4 - 32);
        TideInches y = Check.isle(FLAT);
        y.row(1, 2, 12);
        for (int t = 1; t <= 12; t++) {
            y.set(1, t - 1, y.ahead(t, 1));
        }
        C.due("twelve: level 6 behind 4", y.raised(1, 0, 12), 0);
        C.due("ahead of it", y.raised(1, 0, 3), 32767);
        C.due("with it", y.raised(1, 0, 4), 0);
    }

    private static void raisedRefuses() {
        TideInches x = Check.isle(ISLE);
        C.due("row -1", x.raised(-1, 0, 1), BAD);
        C.due("row 8", x.raised(8, 0, 1), BAD);
        C.due("n 0", x.raised(0, 0, 0), BAD);
        C.due("n 13", x.raised(0, 0, 13), BAD);
        C.due("missing", x.raised(0, 0, 1), NULL);
        x.row(0, 2, 12);
        C.due("i -1", x.raised(0, -1, 1), PLACE);
        C.due("beyond", x.raised(0, 1, 12), PLACE);
        C.due("far", x.raised(0, Integer.MAX_VALUE, 12), PLACE);
        C.due("at the end", x.raised(0, 12, 1), PLACE);
        C.due("all twelve", x.raised(0, 0, 12), 0);
    }

    private static void whoTells() {
        TideInches x = Check.isle(ISLE);
        // Cell 8 has 5 inches at 2: 10 5 11 2 0. Cell 0 has none: 0 0 1 2 0, though it is wet.
        C.due("buyer", who(x, 8, 10), 2);
        C.due("abbey", who(x, 8, 5), 4);
        C.due("sleeper", who(x, 8, 11), 8);
        C.due("goat", who(x, 8, 2), 16);
        C.due("seal, of a dry one", who(x, 8, 0), 32);
        C.due("nobody", who(x, 8, 3), 0);
        C.due("below 0", who(x, 8, -1), 0);
        C.due("no inch", who(x, 0, 0), 2 + 4 + 32);
        C.due("no inch, sleeper", who(x, 0, 1), 8);
        C.due("1 inch", who(x, 9, 2), 2 + 16);
        C.due("1 inch, less", who(x, 9, 1), 4);
        C.due("two", who(x, 9, 2, 8, 10), 2);
        C.due("two", who(x, 9, 2, 8, 2), 16);
        C.due("two that do not fit", who(x, 8, 10, 9, 1), 0);
        C.due("one twice", who(x, 8, 10, 8, 10), 2);
        Check.row(x, 0, 99, 8, 10, 7, 18, 77);
        C.due("from 1 on", x.who(0, 1, 2), 2);
        x.bid(0, 8);
        C.due("held", x.who(0, 1, 2), 2);
        x.raise(0, 8);
        C.due("by stones", x.who(0, 1, 2), 0);
    }

    private static int who(TideInches x, int... items) {
        Check.row(x, 7, items);
        return x.who(7, 0, items.length / 2);
    }

    private static void whoRefuses() {
        TideInches x = Check.isle(ISLE);
        C.due("row -1", x.who(-1, 0, 1), BAD);
        C.due("row 8", x.who(8, 0, 1), BAD);
        C.due("n 0", x.who(0, 0, 0), BAD);
        C.due("n 13", x.who(0, 0, 13), BAD);
        C.due("missing", x.who(0, 0, 1), NULL);
        x.row(0, 2, 24);
        C.due("i -1", x.who(0, -1, 1), PLACE);
        C.due("beyond", x.who(0, 1, 12), PLACE);
        C.due("beyond by one", x.who(0, 23, 1), PLACE);
        C.due("far", x.who(0, Integer.MAX_VALUE, 12), PLACE);
        C.due("all", x.who(0, 0, 12), 2 + 4 + 32);
        x.set(0, 22, 15);
        C.due("no cell", x.who(0, 0, 12), BAD);
        C.due("ahead of it", x.who(0, 0, 11), 2 + 4 + 32);
        x.set(0, 22, -1);
        C.due("no cell", x.who(0, 0, 12), BAD);
        C.due("PLACE ahead of no cell", x.who(0, 22, 2), PLACE);
        C.due("a price that is no cell", x.who(0, 21, 1), 0);
    }

    private static void ringsAreRound() {
        TideInches x = Check.isle(ISLE);
        int[] many = {3, 5, 5, 5, 3, 5, 8, 8, 8, 5, 3, 5, 5, 5, 3};
        for (int cell = 0; cell < 15; cell++) {
            C.due("how many round " + cell, x.ring(cell, 1), many[cell]);
        }
        C.due("round 7", x.ring(7, 0), 2 * (2 + 3 + 2 + 6 + 5 + 4 + 8 + 4));
        C.due("round 0, wet or dry", x.ring(0, 0), 2 * (2 + 3 + 6));
        C.due("round 4", x.ring(4, 0), 2 * (2 + 5 + 1));
        x.bid(0, 8);
        x.bid(4, 9);
        C.due("by cells 0 and 14", Check.isle(FLAT).ring(1, 0) + Check.isle(FLAT).ring(13, 0), 60);
        C.due("held cost nothing", x.ring(7, 0), 2 * (2 + 3 + 2 + 6 + 4 + 8 + 4));
        C.due("held are counted", x.ring(7, 1), 8);
        C.due("itself held", x.ring(8, 0), 2 * (3 + 2 + 0 + 9 + 8 + 4 + 2));
        C.due("cell -1", x.ring(-1, 0), BAD);
        C.due("cell 15", x.ring(15, 0), BAD);
        C.due("what -1", x.ring(0, -1), BAD);
        C.due("what 2", x.ring(0, 2), BAD);
    }

    private static void pursesAreCounted() {
        TideInches x = Check.isle(ISLE);
        Check.row(x, 0, 8, 7, 12, 7, 7, 7, 7, 7);
        C.due("below 10", x.purses(0, 0, 0, 1, 0), 10);
        C.due("from 0", x.purses(0, 0, 0, 1, 1), 0);
        C.due("10 to 27", x.purses(0, 0, 0, 2, 0), 18);
        C.due("from 10", x.purses(0, 0, 0, 2, 1), 10);
        C.due("28 to 43", x.purses(0, 0, 0, 3, 0), 16);
        C.due("98 and 99", x.purses(0, 0, 0, 7, 0), 2);
        C.due("98", x.purses(0, 0, 0, 7, 1), 98);
        C.due("none of 116", x.purses(0, 0, 0, 8, 0), 0);
        C.due("none of 116", x.purses(0, 0, 0, 8, 1), NONE);
        C.due("from 3 on", x.purses(0, 0, 3, 2, 1), 18);
        C.due("abbey", x.purses(1, 0, 0, 2, 1), 5);
        C.due("sleeper", x.purses(2, 0, 0, 2, 0), 19);
        C.due("goat", x.purses(3, 0, 0, 8, 1), 14);
        C.due("goat", x.purses(3, 0, 0, 8, 0), 2);
        C.due("seal", x.purses(4, 0, 0, 8, 0), 0);
        C.due("seal", x.purses(4, 0, 0, 8, 1), NONE);
        Check.row(x, 1, 8, 0);
        C.due("for nothing", x.purses(0, 1, 0, 2, 0), 0);
        C.due("for nothing", x.purses(0, 1, 0, 2, 1), NONE);
        x.bid(0, 8);
        x.raise(0, 8);
        C.due("as heights are now", x.purses(0, 0, 0, 1, 0), 12);
        TideInches y = Check.isle("i0,0,9;hjjjjjjjjjjjjjjj;b0,0;");
        Check.row(y, 0, 1, 2);
        C.due("81 to 99", y.purses(0, 0, 0, 2, 0), 19);
        C.due("81", y.purses(0, 0, 0, 2, 1), 81);
        TideInches z = Check.isle("i0,0,1;hbbbbbbbbbbbbbbb;b0,0;");
        Check.row(z, 0, 1, 2);
        C.due("one alone", z.purses(0, 0, 0, 2, 0), 1);
        C.due("1", z.purses(0, 0, 0, 2, 1), 1);
    }

    private static void pursesRefuse() {
        TideInches x = Check.isle(ISLE);
        C.due("bidder -1", x.purses(-1, 0, 0, 1, 0), BAD);
        C.due("bidder 5", x.purses(5, 0, 0, 1, 0), BAD);
        C.due("row -1", x.purses(0, -1, 0, 1, 0), BAD);
        C.due("row 8", x.purses(0, 8, 0, 1, 0), BAD);
        C.due("n 0", x.purses(0, 0, 0, 0, 0), BAD);
        C.due("n 13", x.purses(0, 0, 0, 13, 0), BAD);
        C.due("what -1", x.purses(0, 0, 0, 1, -1), BAD);
        C.due("what 2", x.purses(0, 0, 0, 1, 2), BAD);
        C.due("missing", x.purses(0, 0, -1, 1, 0), NULL);
        x.row(0, 2, 12);
        C.due("i -1", x.purses(0, 0, -1, 1, 0), PLACE);
        C.due("beyond", x.purses(0, 0, 1, 12, 0), PLACE);
        C.due("far", x.purses(0, 0, Integer.MAX_VALUE, 12, 0), PLACE);
        C.due("all", x.purses(0, 0, 0, 12, 1), NONE);
        x.set(0, 11, 15);
        C.due("no cell", x.purses(0, 0, 0, 12, 0), BAD);
        C.due("PLACE ahead of no cell", x.purses(0, 0, 11, 2, 0), PLACE);
        x.set(0, 11, -1);
        C.due("no cell", x.purses(0, 0, 0, 12, 1), BAD);
        C.due("ahead of it", x.purses(0, 0, 0, 11, 0), 0);
    }

    private static void drawnHoursPass() {
        TideInches x = Check.isle("i0,0,1;hbbbbbbbbbbbbbbb;b9,0;g9,0;");
        C.due("none", x.drawn(0, 1, 0), 0);
        C.due("none", x.drawn(0, 1, 1), 18);
        // 16807 is of bidder 1, cell 7; 282475249 of 1, 4; 1622650073 of 1, 8; 984943658 of 0, 8.
        C.due("one", x.drawn(1, 1, 0), 1);
        C.due("two", x.drawn(2, 1, 0), 2);
        C.due("three", x.drawn(3, 1, 0), 3);
        C.due("four: held", x.drawn(4, 1, 0), 3);
        C.due("four: held", x.drawn(4, 1, 1), 15);
        C.due("nothing changes", x.count(5), 0);
        C.due("nor the hour", x.count(4), 0);
        C.due("nor acts", x.count(6), 0);
        C.due("nor purses", x.bidder(1, 0), 9);
        C.due("n -1", x.drawn(-1, 1, 0), BAD);
        C.due("n 61", x.drawn(61, 1, 0), BAD);
        C.due("seed 0", x.drawn(1, 0, 0), BAD);
        C.due("seed 1000000", x.drawn(1, 1000000, 0), BAD);
        C.due("what -1", x.drawn(1, 1, -1), BAD);
        C.due("what 2", x.drawn(1, 1, 2), BAD);
        // Cell 7 is bought in hour 0, and lost in hour 1.
        TideInches y = Check.isle("i0,6,1;hbbbbbbbbbbbbbbb;b9,0;g9,0;");
        C.due("bought and lost", y.drawn(1, 1, 0), 0);
        C.due("paid for", y.drawn(1, 1, 1), 17);
        C.due("wet from then on", y.drawn(12, 1, 1), 17);
        C.due("all its money", Check.isle("i0,0,1;hbbbbbbbbbbbbbbb;b1,0;").drawn(1, 1, 0), 1);
        C.due("all its money", Check.isle("i0,0,1;hbbbbbbbbbbbbbbb;b1,0;").drawn(1, 1, 1), 0);
        TideInches five = Check.isle(ISLE);
        int[][] drawn = {{5, 99, 2, 89}, {10, 4711, 2, 85}, {20, 2, 4, 86}, {40, 1, 4, 72}, {60, 999999, 3, 65}};
        for (int[] one : drawn) {
            C.due("held by " + one[1], five.drawn(one[0], one[1], 0), one[2]);
            C.due("purses by " + one[1], five.drawn(one[0], one[1], 1), one[3]);
        }
        TideInches z = Check.isle("i0,0,1;hbbbbbbbbbbbbbbb;b0,0;g0,0;");
        C.due("no money", z.drawn(60, 999999, 0), 0);
        TideInches w = Check.isle("i0,0,1;hbbbbbbbbbbbbbbb;b9,0;g9,0;");
        w.bid(0, 7);
        C.due("held ahead of it", w.drawn(1, 1, 1), 17);
        C.due("held ahead of it", w.drawn(1, 1, 0), 1);
        w.hours(24);
        for (int i = 0; i < 40; i++) {
            w.hours(24);
        }
        C.due("beyond hour 999", w.drawn(60, 1, 0), w.drawn(48, 1, 0));
    }

    private static void findingsAreTold() {
        TideInches x = Check.isle(ISLE);
        x.raised(0, 0, 1);
        C.due("raised NULL", x.status(), 1);
        x.row(0, 2, 2);
        C.due("row", x.status(), 0);
        x.raised(0, 0, 3);
        C.due("raised PLACE", x.status(), 2);
        x.raised(0, 0, 0);
        C.due("BAD leaves it", x.status(), 2);
        x.raised(0, 0, 1);
        C.due("raised", x.status(), 0);
        x.who(1, 0, 1);
        C.due("who NULL", x.status(), 1);
        x.who(0, 0, 1);
        C.due("who", x.status(), 0);
        x.who(0, 0, 2);
        C.due("who PLACE", x.status(), 2);
        x.set(0, 0, 99);
        x.who(1, 0, 1);
        x.who(0, 0, 1);
        C.due("no cell leaves it", x.status(), 1);
        x.purses(0, 0, 0, 3, 0);
        C.due("purses PLACE", x.status(), 2);
        x.purses(0, 0, 0, 1, 0);
        C.due("no cell leaves it", x.status(), 2);
        x.purses(0, 0, 1, 1, 0);
        C.due("purses", x.status(), 0);
        x.purses(0, 1, 0, 1, 0);
        C.due("purses NULL", x.status(), 1);
        x.hours(99);
        x.bid(0, 99);
        x.bid(0, 8);
        x.home(0, 0);
        C.due("others leave it", x.status(), 1);
    }
}
