/** Promises 1 and 6 to 8: a new object, the tape, what is read from it and its faults. */
public final class TextTest {
    private static final int BAD = -1000001, FULL = -1000003;
    private static final String LAW = "i0,5,1;";
    private static final String HEIGHTS = "habcdefghijabcde;";
    private static final Check C = new Check();

    public static void main(String[] args) {
        nothingAtFirst();
        feedCounts();
        isleIsRead();
        edgesAreRead();
        numbersAreNotAsTold();
        tokensCannotStand();
        theEndIsAFault();
        biddersAreTooMany();
        theFirstFaultCounts();
        faultsLeaveTheRest();
        anIsleStandsInPlaceOfAnother();
        C.end();
    }

    private static void nothingAtFirst() {
        TideInches x = new TideInches();
        for (int what = 0; what < 8; what++) {
            C.due("count " + what, x.count(what), 0);
        }
        C.due("fault", x.fault(), 0);
        C.due("status", x.status(), 0);
        C.due("trace", x.trace(0), -1000000);
        C.due("no isle", x.cuts(), -1000002);
    }

    private static void feedCounts() {
        TideInches x = new TideInches();
        C.due("-1", x.feed(-1), BAD);
        C.due("256", x.feed(256), BAD);
        C.due("none", x.count(7), 0);
        C.due("0", x.feed(0), 1);
        C.due("255", x.feed(255), 2);
        for (int i = 3; i <= 100; i++) {
            C.due("byte " + i, x.feed('a'), i);
        }
        C.due("the 101st", x.feed('a'), FULL);
        C.due("BAD ahead of FULL", x.feed(256), BAD);
        C.due("a hundred", x.count(7), 100);
        C.due("read", x.isle(), -1000100);
        C.due("empty", x.count(7), 0);
        C.due("room again", x.feed('i'), 1);
    }

    private static void isleIsRead() {
        TideInches x = new TideInches();
        Check.tell(x, "i1,7,3;" + HEIGHTS + "b12,3;a0,14;z99,0;g7,7;l1,10;");
        C.due("five", x.isle(), 5);
        C.due("fault", x.fault(), 0);
        C.due("tape", x.count(7), 0);
        C.due("low", x.ahead(0, 0), 1);
        C.due("high", x.ahead(6, 0), 7);
        C.due("price", x.count(3), 3);
        for (int cell = 0; cell < 15; cell++) {
            C.due("height " + cell, x.cell(cell, 0), cell % 10);
            C.due("holder " + cell, x.cell(cell, 1), -1000000);
        }
        int[] purses = {12, 0, 99, 7, 1};
        int[] homes = {3, 14, 0, 7, 10};
        for (int one = 0; one < 5; one++) {
            C.due("kind " + one, x.kind(one), one + 1);
            C.due("purse " + one, x.bidder(one, 0), purses[one]);
            C.due("home " + one, x.bidder(one, 1), homes[one]);
        }
    }

    private static int read(String text) {
        TideInches x = new TideInches();
        Check.tell(x, text);
        int answer = x.isle();
        return answer >= 0 ? answer : 10 * (-1000100 - answer) + x.fault();
    }

    /** Faults are told here as 10 times the place, and the number. */
    private static void edgesAreRead() {
        C.due("one bidder", read(LAW + HEIGHTS + "b1,1;"), 1);
        C.due("alike", read("i9,9,9;" + HEIGHTS + "b1,1;"), 1);
        C.due("two figures", read("i00,09,01;" + HEIGHTS + "b01,00;"), 1);
        C.due("sorts alike", read(LAW + HEIGHTS + "z1,1;z1,1;"), 2);
        C.due("all low", read(LAW + "haaaaaaaaaaaaaaa;l0,0;"), 1);
        C.due("all high", read(LAW + "hjjjjjjjjjjjjjjj;l0,0;"), 1);
        C.due("five bidders", read("i00,00,01;" + HEIGHTS + "b10,10;b10,10;b10,10;b10,10;b10,10;"), 5);
    }

    private static void numbersAreNotAsTold() {
        C.due("low 10", read("i10,5,1;"), 12);
        C.due("low 99 at the end", read("i99"), 12);
        C.due("high 10", read("i0,10,1;"), 32);
        C.due("high below low", read("i3,2,1;"), 32);
        C.due("high as low", read("i3,3,1;"), 71);
        C.due("price 0", read("i0,5,0;"), 52);
        C.due("price 10", read("i0,5,10;"), 52);
        C.due("home 15", read(LAW + HEIGHTS + "b1,15;"), 272);
        C.due("home 99", read(LAW + HEIGHTS + "b1,99"), 272);
        C.due("home 14", read(LAW + HEIGHTS + "b1,14"), 291);
    }

    private static void tokensCannotStand() {
        C.due("no i", read("h"), 1);
        C.due("capital", read("I"), 1);
        C.due("a number at first", read("1"), 1);
        C.due("no number", read("i,"), 11);
        C.due("no sign", read("i0;"), 21);
        C.due("a blank", read("i0, 5"), 31);
        C.due("three figures", read("i000,5,1;"), 11);
        C.due("four figures", read("i0,1234"), 31);
        C.due("three figures in place of a sign", read(LAW + "123"), 71);
        C.due("no ;", read("i0,5,1,"), 61);
        C.due("no h", read(LAW + "b"), 71);
        C.due("a k", read(LAW + "habk"), 101);
        C.due("a figure", read(LAW + "hab5"), 101);
        C.due("capital height", read(LAW + "hA"), 81);
        C.due("below a", read(LAW + "h`"), 81);
        C.due("too few", read(LAW + "habcdefghijabcd;"), 221);
        C.due("too many", read(LAW + "habcdefghijabcdea;"), 231);
        C.due("no bidder", read(LAW + HEIGHTS + ";"), 241);
        C.due("no such sort", read(LAW + HEIGHTS + "h"), 241);
        C.due("c", read(LAW + HEIGHTS + "c"), 241);
        C.due("no purse", read(LAW + HEIGHTS + "b,"), 251);
        C.due("purse of three", read(LAW + HEIGHTS + "b100,1;"), 251);
        C.due("no ,", read(LAW + HEIGHTS + "b1;"), 261);
        C.due("no home", read(LAW + HEIGHTS + "b1,;"), 271);
        C.due("home of three", read(LAW + HEIGHTS + "b1,014;"), 271);
        C.due("byte 0", read(LAW + HEIGHTS + "b1,1\u0000"), 281);
        C.due("byte 233", read(LAW + HEIGHTS + "\u00e9"), 241);
        C.due("figures of another hand", read("i\u00b2,"), 11);
        C.due("more behind", read(LAW + HEIGHTS + "b1,1;;"), 291);
        C.due("an isle behind", read(LAW + HEIGHTS + "b1,1;" + LAW), 291);
    }

    private static void theEndIsAFault() {
        String whole = LAW + HEIGHTS + "b12,3;g45,14;";
        for (int end = 0; end < whole.length(); end++) {
            int due = end == 30 ? 1 : 10 * end + 1;
            C.due("end " + end, read(whole.substring(0, end)), due);
        }
        C.due("whole", read(whole), 2);
        // What an earlier tape had behind the end does not count.
        TideInches x = Check.isle(whole);
        for (int end = whole.length() - 1; end >= 0; end--) {
            Check.tell(x, whole.substring(0, end));
            C.due("end " + end + " of a shorter tape", x.isle(), end == 30 ? 1 : -1000100 - end);
        }
    }

    private static void biddersAreTooMany() {
        String five = LAW + HEIGHTS + "b1,1;a1,1;z1,1;g1,1;l1,1;";
        C.due("five", read(five), 5);
        C.due("a sixth", read(five + "l1,1;"), 493);
        C.due("a sixth letter", read(five + "b"), 493);
        C.due("a sixth, not as told", read(five + "b1,15;"), 493);
        C.due("none of a sort", read(five + "c"), 491);
        C.due("a number", read(five + "100"), 491);
        C.due("a sign", read(five + ";"), 491);
    }

    private static void theFirstFaultCounts() {
        C.due("a number, then a sign", read("i10;"), 12);
        C.due("a sign, then a number", read("i1;10"), 21);
        C.due("a number that cannot stand", read("99"), 1);
        C.due("home, then a sixth", read(LAW + HEIGHTS + "b1,15;a1,1;z1,1;g1,1;l1,1;b1,1;"), 272);
    }

    private static void faultsLeaveTheRest() {
        TideInches x = Check.isle("i1,7,3;" + HEIGHTS + "b12,3;a0,14;");
        x.bid(0, 3);
        x.raise(0, 3);
        x.row(0, 0, 3);
        Check.tell(x, "i5,6,9;hjjjjjjjjjjjjjjj;l99,0;l99,0;l99,0;x");
        C.due("fault", x.isle(), -1000142);
        C.due("its number", x.fault(), 1);
        C.due("tape", x.count(7), 0);
        C.due("bidders", x.count(1), 2);
        C.due("level", x.count(2), 1);
        C.due("price", x.count(3), 3);
        C.due("held", x.count(5), 8);
        C.due("acts", x.count(6), 2);
        C.due("height", x.cell(3, 0), 4);
        C.due("purse", x.bidder(0, 0), 3);
        C.due("rows", x.count(0), 1);
        C.due("undone", x.undo(), 1);
        Check.tell(x, "i5,6,0");
        x.isle();
        C.due("another fault", x.fault(), 2);
        Check.tell(x, LAW + HEIGHTS + "b1,1;");
        C.due("read", x.isle(), 1);
        C.due("an isle that is read leaves it", x.fault(), 2);
    }

    private static void anIsleStandsInPlaceOfAnother() {
        TideInches x = Check.isle("i1,7,3;" + HEIGHTS + "b12,3;a0,14;");
        x.bid(0, 3);
        x.hours(2);
        x.image(1);
        x.row(5, 0, 3);
        Check.tell(x, LAW + HEIGHTS + "g1,1;");
        C.due("read", x.isle(), 1);
        C.due("bidders", x.count(1), 1);
        C.due("hour", x.count(4), 0);
        C.due("held", x.count(5), 0);
        C.due("acts", x.count(6), 0);
        C.due("no undo", x.undo(), -1000002);
        C.due("rows stay", x.count(0), 1);
        C.due("images stay", x.restore(1), 1);
        C.due("the image's bidders", x.count(1), 2);
        C.due("the image's hour", x.count(4), 2);
        Check.tell(x, "i0,0,1;" + HEIGHTS + "g9,1;");
        x.isle();
        // Cells 7, 4 and 8.
        C.due("held behind drawn hours", x.drawn(3, 1, 0), 3);
        Check.tell(x, LAW + HEIGHTS + "g1,1;");
        x.isle();
        C.due("drawn hours leave no hour", x.count(4), 0);
        C.due("and nothing held", x.count(5), 0);
        Check.tell(x, "i1,1,1;" + HEIGHTS + "x");
        x.isle();
        C.due("nor does a faulty isle", x.count(2), 0);
    }
}
