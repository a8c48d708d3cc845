/** The boundaries that "Terms", part 1, names of TEXTS and FAULTS, and promises 6 to 8: a method a sentence. */
public final class BoundsTextsTest {
    private static final int BAD = -1000001, STATE = -1000002, FULL = -1000003, NONE = -1000000;
    private static final int MOST = Integer.MAX_VALUE, LEAST = Integer.MIN_VALUE;
    private static final String LAW = "i2,7,3;";
    private static final String HEIGHTS = "habcdefghijabcde;";
    private static final String MANY = "b12,3;a0,14;z99,0;g7,7;l1,10;";
    private static final Check C = new Check();
    private static final Twins RICH = new Twins(C, Twins::rich);
    private static final Twins LATE = new Twins(C, Twins::late);
    private static final Twins BARE = new Twins(C, Twins::bare);

    public static void main(String[] args) {
        bytesAre0To255();
        theTapeHasAtMost100();
        numbersHaveTwoFiguresAtMost();
        lowIs0To9();
        highIsLowTo9();
        priceIs1To9();
        heightsAreAToJ();
        heightsAre15();
        sortsAreFive();
        pursesAre0To99();
        homesAre0To14();
        biddersAre1To5();
        aRunOfThreeFiguresIsNone();
        theEndIsAFault();
        theFirstTokenCounts();
        ofOneTokenTheLeast();
        oneByteOtherMoreOrLess();
        whatIsReadStandsInPlace();
        aFaultLeavesAllButTheTape();
        faultTellsTheLatest();
        C.end();
    }

    /** How many bidders there are, or 10 times the place, and the number, of the fault, below 0. */
    private static int read(String text) {
        TideInches x = new TideInches();
        Check.tell(x, text);
        int answer = x.isle();
        return answer >= 0 ? answer : 10 * (answer + 1000100) - x.fault();
    }

    private static void good(String text, int bidders) {
        C.due(text, read(text), bidders);
    }

    private static void faulty(String text, int place, int number) {
        C.due(text, read(text), -10 * place - number);
    }

    private static void bytesAre0To255() {
        TideInches x = new TideInches();
        C.due("0", x.feed(0), 1);
        C.due("255", x.feed(255), 2);
        for (int letter : new int[] {-1, 256, MOST, LEAST, 'i' + 256, 'i' - 256}) {
            RICH.refused("byte " + letter, y -> y.feed(letter), BAD);
            BARE.refused("byte " + letter, y -> y.feed(letter), BAD);
            LATE.refused("byte " + letter + ", BAD ahead of FULL", y -> y.feed(letter), BAD);
        }
    }

    private static void theTapeHasAtMost100() {
        TideInches x = new TideInches();
        for (int i = 1; i <= 100; i++) {
            C.due("byte " + i, x.feed('i'), i);
            C.due("bytes", x.count(7), i);
        }
        C.due("101", x.feed('i'), FULL);
        C.due("a hundred yet", x.count(7), 100);
        C.due("101 again", x.feed(0), FULL);
        LATE.refused("byte 101", y -> y.feed('i'), FULL);
        LATE.refused("byte 101, of 255", y -> y.feed(255), FULL);
        C.due("read", x.isle(), -1000101);
        C.due("empty", x.count(7), 0);
        C.due("room", x.feed('i'), 1);
        // A tape of a hundred bytes that ends within a run of figures.
        TideInches y = new TideInches();
        Check.tell(y, "i2,7,3;" + HEIGHTS);
        for (int i = 24; i < 100; i++) {
            y.feed(i == 24 ? 'b' : '1');
        }
        C.due("a run to the end", y.isle(), -1000125);
        C.due("is none", y.fault(), 1);
    }

    private static void numbersHaveTwoFiguresAtMost() {
        good("i2,7,3;" + HEIGHTS + "b1,1;", 1);
        good("i02,07,03;" + HEIGHTS + "b01,01;", 1);
        good("i02,7,03;" + HEIGHTS + "b00,00;", 1);
        faulty("i002,7,3;", 1, 1);
        faulty("i2,007,3;", 3, 1);
        faulty("i2,7,003;", 5, 1);
        faulty(LAW + HEIGHTS + "b001,1;", 25, 1);
        faulty(LAW + HEIGHTS + "b1,001;", 27, 1);
        C.due("02 is 2", Check.isle("i02,07,03;" + HEIGHTS + "b05,09;").ahead(0, 0), 2);
        C.due("07 is 7", Check.isle("i02,07,03;" + HEIGHTS + "b05,09;").ahead(6, 0), 7);
        C.due("03 is 3", Check.isle("i02,07,03;" + HEIGHTS + "b05,09;").count(3), 3);
        C.due("05 is 5", Check.isle("i02,07,03;" + HEIGHTS + "b05,09;").bidder(0, 0), 5);
        C.due("09 is 9", Check.isle("i02,07,03;" + HEIGHTS + "b05,09;").bidder(0, 1), 9);
    }

    private static void lowIs0To9() {
        for (int low = 0; low <= 99; low++) {
            String text = "i" + low + ",9,1;" + HEIGHTS + "b1,1;";
            if (low <= 9) {
                good(text, 1);
                C.due("low", Check.isle(text).count(2), low);
            } else {
                faulty(text, 1, 2);
            }
        }
    }

    private static void highIsLowTo9() {
        for (int low = 0; low <= 9; low++) {
            for (int high = 0; high <= 12; high++) {
                String text = "i" + low + "," + high + ",1;" + HEIGHTS + "b1,1;";
                if (high >= low && high <= 9) {
                    good(text, 1);
                    C.due("high", Check.isle(text).ahead(6, 0), high);
                } else {
                    faulty(text, 3, 2);
                }
            }
        }
        faulty("i0,99,1;", 3, 2);
    }

    private static void priceIs1To9() {
        for (int price = 0; price <= 99; price++) {
            String text = "i0,9," + price + ";" + HEIGHTS + "b1,1;";
            if (price >= 1 && price <= 9) {
                good(text, 1);
                C.due("price", Check.isle(text).count(3), price);
            } else {
                faulty(text, 5, 2);
            }
        }
        faulty("i0,9,00;", 5, 2);
    }

    private static void heightsAreAToJ() {
        for (int letter = 0; letter < 256; letter++) {
            for (int cell : new int[] {0, 7, 14}) {
                String row = "ddddddddddddddd";
                String text = LAW + "h" + row.substring(0, cell) + (char) letter + row.substring(cell + 1) + ";b1,1;";
                if (letter >= 'a' && letter <= 'j') {
                    good(text, 1);
                    C.due("height " + cell, Check.isle(text).cell(cell, 0), letter - 'a');
                    C.due("others", Check.isle(text).cell(3, 0), 3);
                } else {
                    faulty(text, 8 + cell, 1);
                }
            }
        }
    }

    private static void heightsAre15() {
        String letters = "abcdefghijabcdef";
        for (int many = 0; many <= 16; many++) {
            String text = LAW + "h" + letters.substring(0, many) + ";b1,1;";
            if (many == 15) {
                good(text, 1);
            } else {
                faulty(text, 8 + Math.min(15, many), 1);
            }
        }
    }

    private static void sortsAreFive() {
        for (int letter = 0; letter < 256; letter++) {
            int kind = "bazgl".indexOf(letter) + 1;
            String text = LAW + HEIGHTS + (char) letter + "1,1;";
            if (kind > 0) {
                good(text, 1);
                C.due("kind of " + (char) letter, Check.isle(text).kind(0), kind);
            } else {
                faulty(text, 24, 1);
            }
        }
    }

    private static void pursesAre0To99() {
        for (int purse = 0; purse <= 102; purse++) {
            String text = LAW + HEIGHTS + "b" + purse + ",3;";
            if (purse <= 99) {
                good(text, 1);
                C.due("purse", Check.isle(text).bidder(0, 0), purse);
            } else {
                faulty(text, 25, 1);
            }
        }
        faulty(LAW + HEIGHTS + "b,3;", 25, 1);
    }

    private static void homesAre0To14() {
        for (int home = 0; home <= 102; home++) {
            String text = LAW + HEIGHTS + "b5," + home + ";";
            if (home <= 14) {
                good(text, 1);
                C.due("home", Check.isle(text).bidder(0, 1), home);
            } else {
                faulty(text, 27, home <= 99 ? 2 : 1);
            }
        }
    }

    private static void biddersAre1To5() {
        StringBuilder text = new StringBuilder(LAW + HEIGHTS);
        faulty(text.toString(), 24, 1);
        for (int many = 1; many <= 5; many++) {
            text.append("l0,0;");
            good(text.toString(), many);
            TideInches x = Check.isle(text.toString());
            C.due("how many", x.count(1), many);
            C.due("the last", x.kind(many - 1), 5);
            C.due("none behind it", x.kind(many), BAD);
        }
        faulty(text + "l0,0;", 49, 3);
        faulty(text + "b99,14;l0,0;", 49, 3);
        faulty(LAW + HEIGHTS + MANY + "b1,1;", 53, 3);
        // All numbers of two figures: 62 bytes are the most that an isle can have.
        String longest = "i00,00,01;" + HEIGHTS + "b10,10;b10,10;b10,10;b10,10;b10,10;";
        good(longest, 5);
        C.due("bytes", longest.length(), 62);
    }

    private static void aRunOfThreeFiguresIsNone() {
        // Where a NUMBER could stand, and where none could: at the first figure.
        for (String run : new String[] {"000", "123", "999", "0000", "12345", "000000000000000000000000000000"}) {
            faulty(run, 0, 1);
            faulty("i" + run + ",", 1, 1);
            faulty("i" + run, 1, 1);
            faulty("i2" + "," + run, 3, 1);
            faulty(LAW + run, 7, 1);
            faulty(LAW + "hab" + run, 10, 1);
            faulty(LAW + HEIGHTS + run, 24, 1);
            faulty(LAW + HEIGHTS + "b" + run, 25, 1);
            faulty(LAW + HEIGHTS + "b1," + run, 27, 1);
            faulty(LAW + HEIGHTS + "b1,1;" + run, 29, 1);
        }
        faulty("i4294967298,7,3;", 1, 1);
        faulty(LAW + HEIGHTS + "b1,4294967297;", 27, 1);
    }

    private static void theEndIsAFault() {
        String whole = LAW + HEIGHTS + MANY;
        int[] ends = {30, 36, 42, 47, 53};
        for (int end = 0; end <= whole.length(); end++) {
            int bidders = 0;
            for (int i = 0; i < 5; i++) {
                bidders = ends[i] == end ? i + 1 : bidders;
            }
            if (bidders > 0) {
                good(whole.substring(0, end), bidders);
            } else {
                faulty(whole.substring(0, end), end, 1);
            }
        }
    }

    private static void theFirstTokenCounts() {
        faulty("i10,10,0;", 1, 2);
        faulty("i1,0,0;", 3, 2);
        faulty("i1,1,0;k", 5, 2);
        faulty("k1,0,0;", 0, 1);
        faulty("i1;0,0;", 2, 1);
        faulty(LAW + "hk" + HEIGHTS, 8, 1);
        faulty(LAW + HEIGHTS + "b1,15;q", 27, 2);
        faulty(LAW + HEIGHTS + "q1,15;", 24, 1);
        faulty(LAW + HEIGHTS + "b1,15;b1,1;b1,1;b1,1;b1,1;b1,1;", 27, 2);
        faulty(LAW + HEIGHTS + "b1,1;b1,1;b1,1;b1,1;b1,1;b1,15;", 49, 3);
        faulty(LAW + HEIGHTS + "b1,1;b1,1;b1,1;b1,1;b1,15;b1,1;", 47, 2);
    }

    /** 1 ahead of 2, and ahead of 3. */
    private static void ofOneTokenTheLeast() {
        faulty("99", 0, 1);
        faulty("i2,7,399;", 5, 1);
        faulty("i2,7,3,", 6, 1);
        faulty(LAW + HEIGHTS + MANY + "h", 53, 1);
        faulty(LAW + HEIGHTS + MANY + "9", 53, 1);
        faulty(LAW + HEIGHTS + MANY + "999", 53, 1);
        faulty(LAW + HEIGHTS + MANY + ",", 53, 1);
        faulty(LAW + HEIGHTS + MANY + "B", 53, 1);
        faulty(LAW + HEIGHTS + MANY + "b", 53, 3);
        faulty(LAW + HEIGHTS + MANY + "a", 53, 3);
        faulty(LAW + HEIGHTS + MANY + "z", 53, 3);
        faulty(LAW + HEIGHTS + MANY + "g", 53, 3);
        faulty(LAW + HEIGHTS + MANY + "l", 53, 3);
    }

    private static void alike(String text) {
        TideInches x = new TideInches();
        Model model = new Model();
        for (int i = 0; i < text.length(); i++) {
            x.feed(text.charAt(i));
            model.call("feed", text.charAt(i));
        }
        C.due("isle of " + text, x.isle(), model.call("isle"));
        C.due("fault of " + text, x.fault(), model.call("fault"));
        for (int what = 0; what < 8; what++) {
            C.due("count " + what + " of " + text, x.count(what), model.call("count", what));
        }
    }

    /** Every text that is an isle but for one byte, held against the model. */
    private static void oneByteOtherMoreOrLess() {
        String text = "i2,7,3;" + HEIGHTS + "b12,3;z45,14;";
        for (int at = 0; at <= text.length(); at++) {
            String ahead = text.substring(0, at);
            if (at < text.length()) {
                alike(ahead + text.substring(at + 1));
            }
            for (char letter = 0; letter < 256; letter++) {
                alike(ahead + letter + text.substring(at));
                if (at < text.length()) {
                    alike(ahead + letter + text.substring(at + 1));
                }
            }
        }
    }

    private static void whatIsReadStandsInPlace() {
        TideInches x = Twins.rich();
        x.isle();
        Check.tell(x, "i3,9,5;hjjjjjjjjjjjjjjj;g8,14;l7,13;");
        C.due("two", x.isle(), 2);
        int[] counts = {4, 2, 3, 5, 0, 0, 0, 0};
        for (int what = 0; what < 8; what++) {
            C.due("count " + what, x.count(what), counts[what]);
        }
        for (int cell = 0; cell < 15; cell++) {
            C.due("height", x.cell(cell, 0), 9);
            C.due("nobody", x.cell(cell, 1), NONE);
        }
        C.due("kind", x.kind(0), 4);
        C.due("kind", x.kind(1), 5);
        C.due("none behind", x.kind(2), BAD);
        C.due("purse", x.bidder(0, 0), 8);
        C.due("home", x.bidder(1, 1), 13);
        C.due("nothing", x.bidder(1, 2), 0);
        C.due("no act", x.undo(), STATE);
        C.due("rows stay", x.purses(0, 0, 0, 1, 0), 5);
        C.due("and their ends", x.set(0, 5, 0), -1000012);
        C.due("and their lanes", x.set(1, 1, 200), -56);
        C.due("images stay", x.restore(0), 1);
        C.due("as it was", x.bidder(0, 2), 256);
        C.due("images stay", x.restore(1), 1);
        C.due("as it was", x.count(4), 1);
    }

    private static void aFaultLeavesAllButTheTape() {
        String five = "i9,9,9;hjjjjjjjjjjjjjjj;l1,1;l1,1;l1,1;l1,1;l1,1;";
        leavesAll("", 0, 1);
        leavesAll("k", 0, 1);
        leavesAll("i9,8,9;", 3, 2);
        leavesAll("i9,9,9;", 7, 1);
        leavesAll("i9,9,9;hjjjjjjjjjjjjjjj;", 24, 1);
        leavesAll("i9,9,9;hjjjjjjjjjjjjjjj;l99,15;", 28, 2);
        leavesAll(five + "k", 49, 1);
        leavesAll(five + "l", 49, 3);
    }

    /** What fault() tells is so ahead of it, too. */
    private static void leavesAll(String text, int place, int number) {
        String[] before = {"", "k", "i10", LAW + HEIGHTS + MANY + "l"};
        Twins twins = new Twins(C, () -> {
            TideInches x = Twins.rich();
            x.isle();
            Check.tell(x, before[number]);
            x.isle();
            return x;
        });
        twins.asked(text, x -> {
            Check.tell(x, text);
            int answer = x.isle();
            C.due("fault of " + text, x.fault(), number);
            return answer;
        }, -1000100 - place);
    }

    private static void faultTellsTheLatest() {
        TideInches x = new TideInches();
        C.due("before one", x.fault(), 0);
        Check.tell(x, LAW + HEIGHTS + "b1,1;");
        x.isle();
        C.due("before one, an isle read", x.fault(), 0);
        Check.tell(x, "i10");
        x.isle();
        C.due("2", x.fault(), 2);
        Check.tell(x, LAW + HEIGHTS + "b1,1;");
        C.due("told while it comes", x.fault(), 2);
        x.isle();
        C.due("an isle that is read leaves it", x.fault(), 2);
        Check.tell(x, LAW + HEIGHTS + MANY + "b");
        x.isle();
        C.due("3", x.fault(), 3);
        x.image(0);
        x.restore(0);
        C.due("an image leaves it", x.fault(), 3);
        x.isle();
        C.due("1", x.fault(), 1);
    }
}
