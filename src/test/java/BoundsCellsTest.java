/** The boundaries that "Terms", part 2, names of CELLS, LEVEL, PRICES and what is lost: a method a sentence. */
public final class BoundsCellsTest {
    private static final int NONE = -1000000, BAD = -1000001, STATE = -1000002;
    private static final int MOST = Integer.MAX_VALUE, LEAST = Integer.MIN_VALUE;
    private static final Check C = new Check();
    private static final Twins RICH = new Twins(C, Twins::rich);
    private static final Twins BARE = new Twins(C, Twins::bare);
    // So many sixths (0 to 6) of 0 to 9, cut.
    private static final int[][] SIXTHS = {
        {0, 0, 0, 0, 0, 0, 0}, {0, 0, 0, 0, 0, 0, 1}, {0, 0, 0, 1, 1, 1, 2}, {0, 0, 1, 1, 2, 2, 3},
        {0, 0, 1, 2, 2, 3, 4}, {0, 0, 1, 2, 3, 4, 5}, {0, 1, 2, 3, 4, 5, 6}, {0, 1, 2, 3, 4, 5, 7},
        {0, 1, 2, 4, 5, 6, 8}, {0, 1, 3, 4, 6, 7, 9}};
    // Of 12 left over: 0 to 6 as they are, 7 to 11 as 12 less them.
    private static final int[] OF_TWELVE = {0, 1, 2, 3, 4, 5, 6, 5, 4, 3, 2, 1};

    public static void main(String[] args) {
        cellsAre0To14();
        biddersAreThoseThereAre();
        besideIs1Apart();
        levelGoesBySixths();
        levelGoesBy12LeftOver();
        dryIsAboveLevel();
        deepIsLevelAboveHeight();
        pricesGoByKind();
        halvesAreCut();
        sealsHaveWetCellsAlone();
        buyersAbbeysGoatsLoseWhatIsWet();
        sleepersLoseWhatIsDeepBy2();
        sealsLoseWhatIsDry();
        onlyTheHourLoses();
        C.end();
    }

    private static void cellsAre0To14() {
        for (int cell : new int[] {0, 14}) {
            TideInches x = Check.isle("i0,5,1;hjjjjjjjjjjjjjjj;b99,7;b99,7;");
            C.due("price", x.price(0, cell), 9);
            C.due("bid", x.bid(0, cell), 90);
            C.due("cell", x.cell(cell, 1), 0);
            C.due("stays", x.stays(cell), NONE);
            C.due("when", x.when(cell, 1), 0);
            C.due("home", x.home(0, cell), 3);
            C.due("ring", x.ring(cell, 1), 3);
            C.due("give", x.give(0, 1, cell), 1 << cell);
            C.due("raise a 9", x.raise(1, cell), -1000003);
        }
        for (int cell : new int[] {-1, 15, 31, 32, MOST, LEAST}) {
            RICH.refused("bid for " + cell, x -> x.bid(0, cell), BAD);
            RICH.refused("raise " + cell, x -> x.raise(0, cell), BAD);
            RICH.refused("give " + cell, x -> x.give(0, 1, cell), BAD);
            RICH.refused("cell " + cell, x -> x.cell(cell, 0), BAD);
            RICH.refused("price of " + cell, x -> x.price(0, cell), BAD);
            RICH.refused("stays " + cell, x -> x.stays(cell), BAD);
            RICH.refused("when " + cell, x -> x.when(cell, 0), BAD);
            RICH.refused("home from " + cell, x -> x.home(0, cell), BAD);
            RICH.refused("ring round " + cell, x -> x.ring(cell, 0), BAD);
        }
    }

    private static void biddersAreThoseThereAre() {
        for (int one : new int[] {-1, 5, 31, MOST, LEAST}) {
            RICH.refused("bid of " + one, x -> x.bid(one, 7), BAD);
            RICH.refused("raise of " + one, x -> x.raise(one, 8), BAD);
            RICH.refused("give of " + one, x -> x.give(one, 1, 8), BAD);
            RICH.refused("give to " + one, x -> x.give(1, one, 8), BAD);
            RICH.refused("bidder " + one, x -> x.bidder(one, 0), BAD);
            RICH.refused("price to " + one, x -> x.price(one, 7), BAD);
            RICH.refused("home of " + one, x -> x.home(one, 7), BAD);
            RICH.refused("buy of " + one, x -> x.buy(one, 0), BAD);
            RICH.refused("harvest of " + one, x -> x.harvest(one, 1, 1), BAD);
            RICH.refused("purses of " + one, x -> x.purses(one, 0, 0, 1, 0), BAD);
            RICH.refused("kind of " + one, x -> x.kind(one), BAD);
            RICH.refused("as of " + one, x -> x.as(one, 0), BAD);
            RICH.refused("ask of " + one, x -> x.ask(one, 0), BAD);
        }
        BARE.refused("bid without an isle", x -> x.bid(0, 7), BAD);
        BARE.refused("raise without an isle", x -> x.raise(0, 7), BAD);
        BARE.refused("give without an isle", x -> x.give(0, 1, 7), BAD);
        BARE.refused("bidder without an isle", x -> x.bidder(0, 0), BAD);
        BARE.refused("price without an isle", x -> x.price(0, 7), BAD);
        BARE.refused("home without an isle", x -> x.home(0, 7), BAD);
        BARE.refused("buy without an isle", x -> x.buy(0, 0), BAD);
        BARE.refused("harvest without an isle", x -> x.harvest(0, 1, 1), BAD);
        BARE.refused("purses without an isle", x -> x.purses(0, 0, 0, 1, 0), BAD);
        BARE.refused("kind without an isle", x -> x.kind(0), BAD);
        BARE.refused("as without an isle", x -> x.as(0, 0), BAD);
        BARE.refused("ask without an isle", x -> x.ask(0, 0), BAD);
        // One of two alone: the last there is, and the first there is not.
        Twins two = new Twins(C, Twins.told("i0,5,1;hjjjjjjjjjjjjjjj;b99,7;g5,3;"));
        two.asked("the second", x -> x.bidder(1, 0), 5);
        two.refused("the third, bidder", x -> x.bidder(2, 0), BAD);
        two.refused("the third, bid", x -> x.bid(2, 0), BAD);
        two.refused("the third, give", x -> x.give(0, 2, 0), BAD);
        two.refused("the third, kind", x -> x.kind(2), BAD);
        two.refused("the third, ask", x -> x.ask(2, 0), BAD);
    }

    /** On land that is always dry the fewest hours home are the steps. */
    private static void besideIs1Apart() {
        for (int home = 0; home < 15; home++) {
            TideInches x = Check.isle("i0,0,1;hbbbbbbbbbbbbbbb;b1," + home + ";");
            for (int cell = 0; cell < 15; cell++) {
                int steps = Math.abs(home % 5 - cell % 5) + Math.abs(home / 5 - cell / 5);
                C.due("from " + cell + " to " + home, x.home(0, cell), steps);
            }
        }
    }

    private static void levelGoesBySixths() {
        for (int low = 0; low <= 9; low++) {
            for (int high = low; high <= 9; high++) {
                TideInches x = Check.isle("i" + low + "," + high + ",1;habcdefghijabcde;b1,1;");
                for (int n = 0; n <= 60; n++) {
                    int due = low + SIXTHS[high - low][OF_TWELVE[n % 12]];
                    C.due("level behind " + n + " of " + low + " to " + high, x.ahead(n, 0), due);
                }
                for (int hour = 1; hour <= 25; hour++) {
                    x.hours(1);
                    int due = low + SIXTHS[high - low][OF_TWELVE[hour % 12]];
                    C.due("level in " + hour + " of " + low + " to " + high, x.count(2), due);
                }
            }
        }
    }

    private static void levelGoesBy12LeftOver() {
        TideInches x = Check.isle("i0,6,1;habcdefghijabcde;b1,1;");
        int[] levels = {0, 1, 2, 3, 4, 5, 6, 5, 4, 3, 2, 1, 0, 1, 2, 3, 4, 5, 6, 5, 4, 3, 2, 1, 0};
        for (int n = 0; n < levels.length; n++) {
            C.due("behind " + n, x.ahead(n, 0), levels[n]);
        }
        for (int i = 0; i < 41; i++) {
            x.hours(24);
            C.due("low again", x.count(2), 0);
        }
        C.due("in 999: 3", x.hours(15) + x.count(2), 3);
        C.due("behind 3 more", x.ahead(3, 0), 6);
        C.due("behind 60 more", x.ahead(60, 0), 3);
        C.due("behind 57 more", x.ahead(57, 0), 0);
    }

    private static void dryIsAboveLevel() {
        for (int level = 0; level <= 9; level++) {
            TideInches x = Check.isle("i" + level + "," + level + ",1;habcdefghijaaaaa;b99,1;l99,1;");
            int dry = 0;
            for (int cell = 0; cell < 10; cell++) {
                boolean above = cell >= level + 1;
                dry += above ? 1 << cell : 0;
                C.due("height " + cell + " at " + level, x.cell(cell, 2), above ? 1 : 0);
                C.due("when dry, " + cell, x.when(cell, 1), above ? 0 : NONE);
                C.due("when wet, " + cell, x.when(cell, 0), above ? NONE : 0);
            }
            C.due("dry at " + level, x.ahead(0, 1), dry);
            C.due("dry behind 60 at " + level, x.ahead(60, 1), dry);
        }
    }

    private static void deepIsLevelAboveHeight() {
        int[] ofHeights = {7, 6, 5, 4, 3, 2, 1, 0, 0, 0};
        TideInches x = Check.isle("i7,7,1;habcdefghijabcde;b99,1;");
        for (int cell = 0; cell < 15; cell++) {
            C.due("deep, height " + cell % 10, x.cell(cell, 3), ofHeights[cell % 10]);
        }
        C.due("7 is just wet", x.cell(7, 2), 0);
        C.due("8 is dry", x.cell(8, 2), 1);
        C.due("the deepest", Check.isle("i9,9,1;haaaaaaaaaaaaaaa;b1,1;").cell(0, 3), 9);
        C.due("the highest", Check.isle("i0,0,1;hjjjjjjjjjjjjjjj;b1,1;").cell(0, 3), 0);
    }

    private static void pricesGoByKind() {
        for (int price = 1; price <= 9; price++) {
            TideInches dry = Check.isle("i0,0," + price + ";habcdefghijaaaaa;b9,0;a9,0;z9,0;g9,0;l9,0;");
            TideInches wet = Check.isle("i9,9," + price + ";habcdefghijaaaaa;b9,0;a9,0;z9,0;g9,0;l9,0;");
            for (int height = 1; height <= 9; height++) {
                C.due("buyer", dry.price(0, height), price * height);
                C.due("sleeper", dry.price(2, height), price * height + 1);
                C.due("goat", dry.price(3, height), price);
                C.due("seal", dry.price(4, height), NONE);
                int abbey = dry.price(1, height);
                C.due("abbey, twice and 0 or 1", price * height - 2 * abbey, price * height % 2);
            }
            for (int height = 0; height <= 9; height++) {
                for (int one = 0; one < 4; one++) {
                    C.due("wet to " + one, wet.price(one, height), NONE);
                }
                C.due("wet to a seal", wet.price(4, height), 0);
            }
            C.due("just wet to a seal", dry.price(4, 0), 0);
            C.due("just wet to a buyer", dry.price(0, 0), NONE);
        }
    }

    private static void halvesAreCut() {
        int[] of1 = {0, 1, 1, 2, 2, 3, 3, 4, 4};
        int[] of3 = {1, 3, 4, 6, 7, 9, 10, 12, 13};
        int[] of9 = {4, 9, 13, 18, 22, 27, 31, 36, 40};
        for (int height = 1; height <= 9; height++) {
            C.due("half of 1", abbey(1).price(0, height), of1[height - 1]);
            C.due("half of 3", abbey(3).price(0, height), of3[height - 1]);
            C.due("half of 9", abbey(9).price(0, height), of9[height - 1]);
        }
        TideInches x = Check.isle("i0,0,1;hbbbbbbbbbbbbbbb;a0,0;");
        C.due("an inch for nothing", x.bid(0, 14), 0);
        C.due("held", x.count(5), 16384);
    }

    private static TideInches abbey(int price) {
        return Check.isle("i0,0," + price + ";habcdefghijaaaaa;a9,0;");
    }

    private static void sealsHaveWetCellsAlone() {
        // Level 4: cell 0 has 4 inches, just wet; cell 1 has 5, just dry.
        String text = "i4,4,1;hefaaaaaaaaaaaaa;b99,0;a99,0;z99,0;g99,0;l99,0;";
        int[] purses = {94, 97, 93, 98};
        for (int one = 0; one < 4; one++) {
            int bidder = one;
            Twins twins = new Twins(C, Twins.told(text));
            twins.refused("just wet to " + one, x -> x.bid(bidder, 0), STATE);
            twins.refused("deep to " + one, x -> x.bid(bidder, 14), STATE);
            C.due("just dry to " + one, Check.isle(text).bid(one, 1), purses[one]);
            C.due("which it can have, " + one, Check.isle(text).buy(one, 1), 2);
            twins.asked("harvest of one, " + one, x -> x.harvest(bidder, 1, 12), 99 - purses[one]);
            twins.asked("harvest of two, " + one, x -> x.harvest(bidder, 2, 12), NONE);
        }
        Twins twins = new Twins(C, Twins.told(text));
        twins.refused("just dry to a seal", x -> x.bid(4, 1), STATE);
        C.due("just wet to a seal", Check.isle(text).bid(4, 0), 99);
        C.due("deep to a seal", Check.isle(text).bid(4, 14), 99);
        C.due("which a seal can have", Check.isle(text).buy(4, 1), 1);
        twins.asked("harvest of 14, a seal", x -> x.harvest(4, 14, 12), 0);
        twins.asked("harvest of 15, a seal", x -> x.harvest(4, 15, 12), NONE);
    }

    /** Level is the hour up to 6, then less again. */
    private static void heldThrough(String sort, int height, int lastHour) {
        TideInches x = Check.isle("i0,6,1;h" + (char) ('a' + height) + "aaaaaaaaaaaaaa;" + sort + "99,0;");
        x.bid(0, 0);
        C.due(sort + " bids for " + height, x.count(5), 1);
        C.due(sort + " stays on " + height, x.stays(0), lastHour >= 12 ? NONE : lastHour + 1);
        for (int hour = 1; hour <= 12; hour++) {
            C.due(sort + " on " + height + " in " + hour, x.hours(1), hour <= lastHour ? 1 : 0);
        }
    }

    private static void buyersAbbeysGoatsLoseWhatIsWet() {
        for (String sort : new String[] {"b", "a", "g"}) {
            for (int height = 1; height <= 6; height++) {
                heldThrough(sort, height, height - 1);
            }
            heldThrough(sort, 7, 12);
            heldThrough(sort, 9, 12);
        }
    }

    private static void sleepersLoseWhatIsDeepBy2() {
        for (int height = 1; height <= 4; height++) {
            heldThrough("z", height, height + 1);
        }
        heldThrough("z", 5, 12);
        heldThrough("z", 6, 12);
        // Just wet, and deep by 1, when it is had: no reason to lose it, but it cannot be bought.
        TideInches x = Check.isle("i4,4,1;hedcaaaaaaaaaaaa;z9,0;l9,0;");
        for (int cell = 0; cell < 3; cell++) {
            x.bid(1, cell);
            x.give(1, 0, cell);
        }
        C.due("given", x.bidder(0, 2), 7);
        C.due("deep by 0", x.stays(0), NONE);
        C.due("deep by 1", x.stays(1), NONE);
        C.due("deep by 2", x.stays(2), 1);
        C.due("deep by 0 and 1 are kept", x.hours(1), 3);
    }

    private static void sealsLoseWhatIsDry() {
        for (int height = 0; height <= 6; height++) {
            TideInches x = Check.isle("i0,6,1;h" + (char) ('a' + height) + "jjjjjjjjjjjjjj;l0,0;");
            x.hours(6);
            C.due("bid for " + height, x.bid(0, 0), 0);
            C.due("stays on " + height, x.stays(0), height == 0 ? NONE : 7 - height);
            for (int hour = 7; hour <= 12; hour++) {
                C.due("on " + height + " in " + hour, x.hours(1), 12 - hour >= height ? 1 : 0);
            }
        }
    }

    private static void onlyTheHourLoses() {
        // A seal's, dry by stones; wet behind an hour, so it is not lost but behind 12.
        TideInches x = Check.isle("i0,6,1;haaaaaaaaaaaaaaa;l0,0;b9,0;");
        x.bid(0, 3);
        C.due("1 inch", x.raise(0, 3), 1);
        C.due("dry", x.cell(3, 2), 1);
        C.due("held", x.count(5), 8);
        C.due("behind 12", x.stays(3), 12);
        C.due("held for 11", x.hours(11), 8);
        C.due("and no more", x.hours(1), 0);
        // A buyer's, wet by a gift at the highest tide; dry behind an hour, so it is not lost but behind 12.
        TideInches y = Check.isle("i0,6,1;hgaaaaaaaaaaaaaa;l0,0;b9,0;");
        y.hours(6);
        y.bid(0, 0);
        C.due("given", y.give(0, 1, 0), 1);
        C.due("wet", y.cell(0, 2), 0);
        C.due("held", y.count(5), 1);
        C.due("behind 12", y.stays(0), 12);
        C.due("held for 11", y.hours(11), 1);
        C.due("and no more", y.hours(1), 0);
        // What is lost pays nothing, and can be bought anew.
        TideInches z = Check.isle("i0,6,1;hbaaaaaaaaaaaaaa;b9,0;");
        z.bid(0, 0);
        z.hours(12);
        C.due("lost", z.cell(0, 1), NONE);
        C.due("not paid back", z.bidder(0, 0), 8);
        C.due("anew", z.bid(0, 0), 7);
    }
}
