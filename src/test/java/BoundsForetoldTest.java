import java.math.BigInteger;
import java.util.Arrays;
import java.util.Set;
import java.util.TreeSet;

/** The boundaries that "Terms", part 3, names, and promises 17 to 28: a method a sentence. */
public final class BoundsForetoldTest {
    private static final int NONE = -1000000, BAD = -1000001, STATE = -1000002;
    private static final int NULL = -1000011, PLACE = -1000012;
    private static final int MOST = Integer.MAX_VALUE, LEAST = Integer.MIN_VALUE;
    private static final int[] NO_CHOICE = {-1, 2, MOST, LEAST};
    private static final Check C = new Check();
    private static final Twins RICH = new Twins(C, Twins::rich);
    private static final Twins LATE = new Twins(C, Twins::late);
    private static final Twins BARE = new Twins(C, Twins::bare);

    public static void main(String[] args) {
        nothingIsForetoldWithoutAnIsle();
        nothingChanges();
        aheadIs0To60();
        partsAreOfCellsBeside();
        staysIs1To60();
        whenIs0To60();
        cutsAreOfWhatIsDry();
        homeIs0To24();
        homeIsByDryCellsOfNobodyElse();
        buyIsNoMoreThanThePurse();
        buyIsOfCellsItCanHaveNow();
        buyTakesTheLeastPricesThenBits();
        harvestIsOf1To15Cells();
        harvestIsFor1To12Hours();
        raisedIsOf1To12Hours();
        raisedIsBelow9();
        whoIsOf1To12Cells();
        whoIsOfAllKinds();
        ringIsOfThreeToEight();
        pursesAreOf1To12Cells();
        pursesAre0To99();
        drawnIs0To60();
        drawnIsByASeed();
        C.end();
    }

    private static void nothingIsForetoldWithoutAnIsle() {
        for (int n : new int[] {0, 60, -1, 61}) {
            for (int what : new int[] {0, 1, 2, 3, -1}) {
                BARE.refused("ahead", x -> x.ahead(n, what), STATE);
                BARE.refused("drawn", x -> x.drawn(n, 1, what), STATE);
            }
            BARE.refused("drawn", x -> x.drawn(n, 0, 0), STATE);
        }
        for (int cell : new int[] {0, 14, -1, 15}) {
            BARE.refused("stays", x -> x.stays(cell), STATE);
            for (int what : new int[] {0, 1, 2, -1}) {
                BARE.refused("when", x -> x.when(cell, what), STATE);
                BARE.refused("ring", x -> x.ring(cell, what), STATE);
            }
        }
        BARE.refused("cuts", TideInches::cuts, STATE);
        // STATE ahead of BAD (row 8, n 13), of NULL (row 4), of PLACE (i 5), and where the row would do.
        for (int row : new int[] {0, 4, 8, -1}) {
            for (int n : new int[] {1, 0, 13}) {
                BARE.refused("raised", x -> x.raised(row, 0, n), STATE);
                BARE.refused("who", x -> x.who(row, 0, n), STATE);
            }
            BARE.refused("raised", x -> x.raised(row, 5, 1), STATE);
            BARE.refused("who", x -> x.who(row, 5, 1), STATE);
        }
    }

    private static void nothingChanges() {
        RICH.asked("level", x -> x.ahead(0, 0), 2);
        RICH.asked("dry", x -> x.ahead(0, 1), 14820);
        RICH.asked("parts", x -> x.ahead(0, 2), 1);
        RICH.asked("stays", x -> x.stays(8), 4);
        RICH.asked("stays, a seal", x -> x.stays(9), NONE);
        RICH.asked("when wet", x -> x.when(8, 0), 4);
        RICH.asked("when dry", x -> x.when(14, 1), 11);
        RICH.asked("cuts", TideInches::cuts, 64 + 128);
        RICH.asked("home", x -> x.home(0, 6), 1);
        RICH.asked("buy, how much", x -> x.buy(3, 0), 27);
        RICH.asked("buy, which", x -> x.buy(3, 1), 64 + 128 + 2048 + 4096);
        RICH.asked("harvest", x -> x.harvest(3, 2, 1), 4);
        RICH.asked("ring", x -> x.ring(7, 0), 2 * (2 + 2 + 6 + 4 + 8 + 4));
        RICH.asked("ring, how many", x -> x.ring(7, 1), 8);
        RICH.asked("drawn, held", x -> x.drawn(0, 1, 0), 3);
        RICH.asked("drawn, purses", x -> x.drawn(0, 1, 1), 40 + 20 + 23 + 9 + 5);
        RICH.asked("drawn of 60", x -> x.drawn(60, 999999, 0) < 0 ? 1 : 0, 0);
        RICH.askedOfRows("raised", x -> x.raised(0, 0, 1), 0);
        RICH.askedOfRows("who", x -> x.who(0, 0, 2), 2);
        RICH.askedOfRows("purses", x -> x.purses(0, 0, 0, 1, 0), 4);
        RICH.askedOfRows("purses, the least", x -> x.purses(0, 0, 0, 1, 1), 0);
        LATE.asked("level behind 60", x -> x.ahead(60, 0), 4);
        LATE.asked("stays", x -> x.stays(6), 2);
        LATE.asked("drawn of 60", x -> x.drawn(60, 1, 0) < 0 ? 1 : 0, 0);
        LATE.asked("home, 5 inches, dry again at level 4", x -> x.home(3, 7), 6);
    }

    private static void aheadIs0To60() {
        RICH.asked("0", x -> x.ahead(0, 0), 2);
        RICH.asked("60", x -> x.ahead(60, 0), 2);
        RICH.asked("59", x -> x.ahead(59, 0), 1);
        RICH.asked("dry behind 60", x -> x.ahead(60, 1), 14820);
        RICH.asked("parts behind 60", x -> x.ahead(60, 2), 1);
        for (int n : new int[] {-1, 61, MOST, LEAST}) {
            for (int what = 0; what < 3; what++) {
                int asked = what;
                RICH.refused("ahead " + n + ", " + what, x -> x.ahead(n, asked), BAD);
            }
        }
        for (int what : new int[] {-1, 3, MOST, LEAST}) {
            RICH.refused("ahead, what " + what, x -> x.ahead(0, what), BAD);
        }
    }

    private static TideInches dryIs(String ofCells) {
        return Check.isle("i0,0,1;h" + ofCells + ";b1,1;");
    }

    private static void partsAreOfCellsBeside() {
        C.due("none", dryIs("aaaaaaaaaaaaaaa").ahead(0, 2), 0);
        C.due("all", dryIs("bbbbbbbbbbbbbbb").ahead(0, 2), 1);
        C.due("one", dryIs("aaaaaaaaaaaaaab").ahead(0, 2), 1);
        C.due("every other one: the most", dryIs("bababababababab").ahead(0, 2), 8);
        C.due("the others", dryIs("ababababababababa".substring(0, 15)).ahead(0, 2), 7);
        C.due("4 and 5 are not beside", dryIs("aaaabbaaaaaaaaa").ahead(0, 2), 2);
        C.due("9 and 10 are not beside", dryIs("aaaaaaaaabbaaaa").ahead(0, 2), 2);
        C.due("0 and 5 are", dryIs("baaaabaaaaaaaaa").ahead(0, 2), 1);
        C.due("9 and 14 are", dryIs("aaaaaaaaabaaaab").ahead(0, 2), 1);
        C.due("0 and 6 are not", dryIs("baaaaabaaaaaaaa").ahead(0, 2), 2);
        C.due("0 and 10 are not", dryIs("baaaaaaaaabaaaa").ahead(0, 2), 2);
        C.due("0 and 14 are not", dryIs("baaaaaaaaaaaaab").ahead(0, 2), 2);
        C.due("the longest path", dryIs("bbbbbaaaabbbbbb").ahead(0, 2), 1);
        C.due("round the middle", dryIs("bbbbbbaaabbbbbb").ahead(0, 2), 1);
    }

    private static void staysIs1To60() {
        // A seal's, dry already by stones, is lost behind 1; the latest is behind 12 (the level comes again).
        TideInches x = Check.isle("i0,6,1;haabaaaaaaaaaaaa;l0,0;b9,0;");
        x.bid(0, 0);
        x.raise(0, 0);
        C.due("dry now, wet behind 1", x.stays(0), 12);
        x.raise(0, 0);
        C.due("dry behind 1", x.stays(0), 1);
        x.bid(1, 2);
        C.due("wet behind 1", x.stays(2), 1);
        x.bid(0, 14);
        C.due("never dry", x.stays(14), NONE);
        x.give(0, 1, 14);
        C.due("wet now, and behind 1", x.stays(14), 1);
        C.due("nobody's", x.stays(7), NONE);
        RICH.asked("nobody's, wet", y -> y.stays(14), NONE);
        RICH.asked("nobody's, dry", y -> y.stays(7), NONE);
        RICH.asked("a sleeper's, deep by 2", y -> y.stays(2), 3);
    }

    private static void whenIs0To60() {
        // The latest is behind 11: dry in hour 12 alone.
        TideInches x = Check.isle("i0,6,1;hbaghaaaaaaaaaaa;b9,0;");
        x.hours(1);
        C.due("dry in 12", x.when(0, 1), 11);
        C.due("wet now", x.when(0, 0), 0);
        C.due("never dry", x.when(1, 1), NONE);
        C.due("wet in 6 alone", x.when(2, 0), 5);
        C.due("never wet", x.when(3, 0), NONE);
        C.due("dry now", x.when(3, 1), 0);
        x.hours(6);
        C.due("wet in 18 alone", x.when(2, 0), 11);
        for (int dry : NO_CHOICE) {
            RICH.refused("when, dry " + dry, y -> y.when(0, dry), BAD);
        }
    }

    private static void cutsAreOfWhatIsDry() {
        C.due("none is dry", dryIs("aaaaaaaaaaaaaaa").cuts(), 0);
        C.due("all are dry", dryIs("bbbbbbbbbbbbbbb").cuts(), 0);
        C.due("one alone makes fewer", dryIs("aaaaaaabaaaaaaa").cuts(), 0);
        C.due("two", dryIs("aaaaaabbaaaaaaa").cuts(), 0);
        C.due("three in a line", dryIs("aaaaaabbbaaaaaa").cuts(), 128);
        C.due("three in a corner", dryIs("bbaaabaaaaaaaaa").cuts(), 1);
        C.due("four round nothing", dryIs("bbaaabbaaaaaaaa").cuts(), 0);
        C.due("a cross", dryIs("aabaaabbbaaabaa").cuts(), 128);
        C.due("over an end of a row", dryIs("aaabbbaaaaaaaaa").cuts(), 0);
        C.due("of two parts", dryIs("bbbaaaaaaaaabbb").cuts(), 2 + 8192);
        C.due("a snake", dryIs("bbbbbaaaabbbbbb").cuts(), 32767 - 32 - 64 - 128 - 256 - 1 - 1024);
        // A wet one that would join, were it dry, cuts nothing.
        C.due("a gap", dryIs("babaaaaaaaaaaaa").cuts(), 0);
        TideInches x = Check.isle("i0,6,1;hjcjaaaaaaaaaaaa;b9,0;");
        C.due("dry now", x.cuts(), 2);
        x.hours(2);
        C.due("just wet", x.cuts(), 0);
    }

    private static void homeIs0To24() {
        RICH.asked("there", x -> x.home(0, 7), 0);
        RICH.asked("there, wet", x -> x.home(4, 0), 0);
        // Home has 1 inch, and is dry at level 0 in hours 0, 12, 24, .. alone; all others are always dry.
        String text = "i0,6,1;hjjjjjjjjjjjjjjb;b9,14;g9,13;";
        TideInches x = Check.isle(text);
        C.due("now there", x.home(0, 14), 0);
        C.due("beside, not behind 1", x.home(0, 13), 12);
        C.due("far", x.home(0, 0), 12);
        x.hours(12);
        C.due("dry now, but not behind 1", x.home(0, 13), 12);
        x.hours(11);
        C.due("beside, dry behind 1", x.home(0, 13), 1);
        C.due("two steps: the next time", x.home(0, 12), 13);
        C.due("six steps", x.home(0, 0), 13);
        // Behind 24 and no more: the way is open at both ends of two tides.
        TideInches late = Check.isle("i2,8,1;hfdfbebjdddjfdjg;b9,2;");
        C.due("25", late.home(0, 8), NONE);
        late.hours(1);
        C.due("24", late.home(0, 8), 24);
        late.hours(1);
        C.due("23", late.home(0, 8), 23);
    }

    private static void homeIsByDryCellsOfNobodyElse() {
        String line = "i0,0,1;hbbbaaaaaaaaaaaa;b9,2;g9,0;";
        TideInches x = Check.isle(line);
        C.due("free land", x.home(0, 0), 2);
        x.bid(0, 1);
        C.due("its own", x.home(0, 0), 2);
        x.give(0, 1, 1);
        C.due("another one's", x.home(0, 0), NONE);
        C.due("another one's, that it begins in", x.home(0, 1), 1);
        x.undo();
        x.bid(1, 0);
        C.due("another one's, that it begins in", x.home(0, 0), 2);
        x.bid(1, 2);
        C.due("home is another one's", x.home(0, 1), NONE);
        C.due("home is another one's, it is there", x.home(0, 2), 0);
        // The one it begins in does not matter, but to stay there does.
        TideInches y = Check.isle("i0,6,1;hbaaaaaaaaaaaaaa;b9,0;");
        C.due("wet, beside home, wet behind 1", y.home(0, 1), NONE);
        y.hours(11);
        C.due("wet, beside home, dry behind 1", y.home(0, 1), 1);
        C.due("two steps by the sea", y.home(0, 2), NONE);
        // Wet in between: it must go round, or wait on dry land.
        TideInches z = Check.isle("i0,6,1;hjdjaajjjaaaaaaa;b9,2;");
        C.due("over the low one, wet from 3 on", z.home(0, 0), 2);
        z.hours(1);
        C.due("just in time: level 2 behind 1", z.home(0, 0), 2);
        z.hours(1);
        C.due("too late: round by 5, 6, 7", z.home(0, 0), 4);
    }

    private static void buyIsNoMoreThanThePurse() {
        for (int purse = 0; purse <= 7; purse++) {
            // 1, 2 and 3 inches at 1.
            int[] most = {0, 1, 2, 3, 4, 5, 6, 6};
            int[] which = {0, 1, 2, 3, 5, 6, 7, 7};
            TideInches x = Check.isle("i0,0,1;hbcdaaaaaaaaaaaa;b" + purse + ",0;");
            C.due("how much for " + purse, x.buy(0, 0), most[purse]);
            C.due("which for " + purse, x.buy(0, 1), which[purse]);
        }
        TideInches all = Check.isle("i0,0,1;hhhhhhhhhhhhhhhh;b99,0;g15,0;g14,0;");
        C.due("14 of 7 inches for 98", all.buy(0, 0), 98);
        C.due("the least bits of them", all.buy(0, 1), 16383);
        C.due("all for 15", all.buy(1, 1), 32767);
        C.due("14 for 14", all.buy(2, 1), 16383);
        TideInches exact = Check.isle("i0,0,9;hjcaaaaaaaaaaaaa;b99,0;b98,0;");
        C.due("99 of 99", exact.buy(0, 0), 11);
        C.due("81 of 98", exact.buy(1, 0), 9);
        // 9, 2, 8 and 8 inches: what 99 bought once it buys no more when the 9 are held.
        TideInches anew = Check.isle("i0,0,9;hjciiaaaaaaaaaaa;b99,0;b99,0;");
        C.due("99 of 99, which", anew.buy(0, 1), 1 + 2);
        anew.bid(1, 0);
        C.due("90 of 99", anew.buy(0, 0), 10);
        C.due("90 of 99, which", anew.buy(0, 1), 2 + 4);
        for (int what : NO_CHOICE) {
            RICH.refused("buy, what " + what, x -> x.buy(0, what), BAD);
        }
    }

    private static void buyIsOfCellsItCanHaveNow() {
        String text = "i4,4,1;hjiefgaaaaaaaaaa;b99,0;l0,0;";
        TideInches x = Check.isle(text);
        // 9 8 5 6 are dry, 4 just wet; a seal can have 4, and what has no inch.
        C.due("dry ones", x.buy(0, 1), 1 + 2 + 8 + 16);
        C.due("dry inches", x.buy(0, 0), 28);
        C.due("wet ones, with inches", x.buy(1, 1), 4);
        C.due("wet inches", x.buy(1, 0), 4);
        x.bid(0, 0);
        x.bid(1, 2);
        C.due("nobody's", x.buy(0, 1), 2 + 8 + 16);
        C.due("none: how much", x.buy(1, 0), 0);
        C.due("none: which", x.buy(1, 1), 0);
        C.due("none for a new purse: how much", Check.isle("i9,9,1;hjjjjjjjjjjjjjjj;b99,0;").buy(0, 0), 0);
        C.due("none for a new purse: which", Check.isle("i9,9,1;hjjjjjjjjjjjjjjj;b99,0;").buy(0, 1), 0);
        C.due("all are a seal's", Check.isle("i9,9,1;hjjjjjjjjjjjjjjj;l0,0;").buy(0, 0), 135);
    }

    private static void buyTakesTheLeastPricesThenBits() {
        // A sleeper pays 1 more for each: 3 inches are 4, or 2 and 1 are 5.
        C.due("least prices, of more bits", Check.isle("i0,0,1;hbcdaaaaaaaaaaaa;z5,0;").buy(0, 1), 4);
        C.due("least prices, of less bits", Check.isle("i0,0,1;hdcbaaaaaaaaaaaa;z5,0;").buy(0, 1), 1);
        // A buyer pays by the inch: 3 are 2 and 1, whatever the cells: the least bits.
        C.due("two of less bits", Check.isle("i0,0,1;hbcdaaaaaaaaaaaa;b3,0;").buy(0, 1), 3);
        C.due("one of less bits", Check.isle("i0,0,1;hdcbaaaaaaaaaaaa;b3,0;").buy(0, 1), 1);
        C.due("of the same inches", Check.isle("i0,0,1;hbbbbbbbbbbbbbbb;b1,0;").buy(0, 1), 1);
        C.due("two of the same inches", Check.isle("i0,0,1;hbbbbbbbbbbbbbbb;b2,0;").buy(0, 1), 3);
        C.due("the highest bit counts first", Check.isle("i0,0,1;hccdbaaaaaaaaaaa;b5,0;").buy(0, 1), 7 - 2);
        // An abbey: 1 inch for 0, 3 for 1, 2 for 1.
        C.due("odd inches are cheap", Check.isle("i0,0,1;hbdcaaaaaaaaaaaa;a1,0;").buy(0, 0), 4);
        C.due("which", Check.isle("i0,0,1;hbdcaaaaaaaaaaaa;a1,0;").buy(0, 1), 3);
        // A goat takes the highest; of the same, the least bits.
        C.due("a goat's", Check.isle("i0,0,1;hcdcdaaaaaaaaaaa;g3,0;").buy(0, 1), 2 + 8 + 1);
    }

    private static void harvestIsOf1To15Cells() {
        TideInches x = Check.isle("i0,0,1;hjbcdefghijbcdef;b0,0;l0,0;");
        C.due("1", x.harvest(0, 1, 1), 1);
        C.due("2", x.harvest(0, 2, 1), 2);
        C.due("15", x.harvest(0, 15, 12), 9 + 45 + 15);
        C.due("14", x.harvest(0, 14, 12), 45 + 15);
        C.due("a seal has none", x.harvest(1, 1, 1), NONE);
        x.bid(0, 1);
        C.due("the purse does not matter", x.harvest(0, 15, 12), 69);
        for (int k : new int[] {0, -1, 16, MOST, LEAST}) {
            RICH.refused(k + " cells", y -> y.harvest(0, k, 1), BAD);
        }
        RICH.asked("as many as there are", y -> y.harvest(0, 5, 1), 2 * (6 + 9 + 4 + 8 + 4));
        RICH.asked("one more", y -> y.harvest(0, 6, 1), NONE);
        RICH.asked("15", y -> y.harvest(0, 15, 1), NONE);
        TideInches one = Check.isle("i0,0,1;hbcaaaaaaaaaaaaa;b9,0;");
        C.due("both", one.harvest(0, 2, 1), 3);
        one.bid(0, 1);
        C.due("what nobody holds", one.harvest(0, 1, 1), 1);
        C.due("no two of them", one.harvest(0, 2, 1), NONE);
    }

    private static void harvestIsFor1To12Hours() {
        // Level is the hour up to 6: a cell of h inches is wet in hour h; 7 inches never.
        for (int height = 1; height <= 9; height++) {
            String text = "i0,6,1;h" + (char) ('a' + height) + "aaaaaaaaaaaaaa;b99,0;z99,0;";
            for (int n = 1; n <= 12; n++) {
                TideInches x = Check.isle(text);
                C.due(height + " for " + n, x.harvest(0, 1, n), height > Math.min(6, n) ? height : NONE);
                int asleep = height + 2 > Math.min(6, n) ? height + 1 : NONE;
                C.due(height + " asleep for " + n, x.harvest(1, 1, n), asleep);
            }
        }
        // Wet at the 12th hour from 6 on, hour 18; a seal's: dry in hour 12 alone.
        TideInches y = Check.isle("i0,6,1;hbaaaaaaaaaaaaaa;l0,0;");
        y.hours(1);
        C.due("wet for 10", y.harvest(0, 15, 10), 0);
        C.due("dry behind 11", y.harvest(0, 15, 11), NONE);
        C.due("14 never dry", y.harvest(0, 14, 12), 0);
        for (int n : new int[] {0, -1, 13, MOST, LEAST}) {
            RICH.refused("for " + n + " hours", x -> x.harvest(0, 1, n), BAD);
        }
    }

    private static void raisedIsOf1To12Hours() {
        TideInches x = Check.isle("i0,6,1;hccccccccccccccc;b9,0;");
        x.row(0, 2, 12);
        // 2 inches are dry at level 1, wet at level 2; 3 inches are dry at level 2. Hours 1 to 12: 1 2 .. 6 5 .. 0.
        int[] levels = {1, 2, 3, 4, 5, 6, 5, 4, 3, 2, 1, 0};
        for (int k = 0; k < 12; k++) {
            x.set(0, k, levels[k] <= 1 ? 32767 : levels[k] == 2 ? 16 : 0);
        }
        C.due("of 1 hour: any, as it is", x.raised(0, 0, 1), 32767);
        C.due("of 2 hours", x.raised(0, 0, 2), 16);
        C.due("of 12 hours", x.raised(0, 0, 12), 16);
        x.set(0, 11, 32766);
        C.due("the 12th counts", x.raised(0, 0, 12), 0);
        C.due("the 11 ahead of it", x.raised(0, 0, 11), 16);
        x.set(0, 0, 32766);
        C.due("the 1st counts", x.raised(0, 0, 2), 0);
        x.set(0, 0, 32767);
        C.due("the first of these is behind 1", x.raised(0, 1, 1), 0);
        Check.row(x, 3, 32767 + 32768);
        C.due("no more than 15 cells", x.raised(3, 0, 1), 0);
        Check.row(x, 3, -1);
        C.due("nor all bits", x.raised(3, 0, 1), 0);
        for (int n : new int[] {0, -1, 13, MOST, LEAST}) {
            RICH.refused("raised of " + n, y -> y.raised(2, 0, n), BAD);
            RICH.refused("raised of " + n + ", BAD ahead of NULL", y -> y.raised(3, 0, n), BAD);
        }
        C.due("at the end", Twins.rich().raised(2, 28, 12), 0);
        C.due("the last", Twins.rich().raised(2, 39, 1), 0);
        for (int[] p : new int[][] {{-1, 1}, {29, 12}, {40, 1}, {39, 2}, {MOST, 12}, {LEAST, 1}, {MOST - 11, 12}}) {
            RICH.refused("raised from " + p[0] + ", " + p[1], y -> y.raised(2, p[0], p[1]), PLACE);
        }
        RICH.refused("raised of an empty row", y -> y.raised(6, 0, 1), PLACE);
        RICH.refused("raised, NULL ahead of PLACE", y -> y.raised(3, -1, 1), NULL);
    }

    private static void raisedIsBelow9() {
        // Level 8: 9 inches alone are dry. One of 8 would be dry, too, and one of 9 can be no higher.
        TideInches x = Check.isle("i8,8,1;hijhaaaaaaaaaaaa;b9,0;");
        Check.row(x, 0, 2, 3, 2 + 4, 0);
        C.due("as it is: all below 8", x.raised(0, 0, 1), 32767 - 1 - 2);
        C.due("8 to 9", x.raised(0, 1, 1), 1);
        C.due("7 to 8 is just wet", x.raised(0, 2, 1), 0);
        C.due("none is less high", x.raised(0, 3, 1), 0);
        TideInches y = Check.isle("i9,9,1;hjjjjjjjjjjjjjji;b9,0;");
        Check.row(y, 0, 0, 1);
        C.due("as it is: 8 alone", y.raised(0, 0, 1), 16384);
        C.due("9 to 10 is nothing", y.raised(0, 1, 1), 0);
    }

    private static void whoIsOf1To12Cells() {
        TideInches x = Check.isle("i0,0,2;hbcdefghijaaaaaa;b9,0;");
        x.row(0, 2, 24);
        for (int k = 0; k < 12; k++) {
            x.set(0, 2 * k, k % 9);
            x.set(0, 2 * k + 1, 2 * (k % 9 + 1));
        }
        C.due("12", x.who(0, 0, 12), 2);
        C.due("1: a buyer, a goat", x.who(0, 0, 1), 2 + 16);
        C.due("the last", x.who(0, 22, 1), 2);
        x.set(0, 23, 5);
        C.due("the 12th counts", x.who(0, 0, 12), 0);
        C.due("the 11 ahead of it", x.who(0, 0, 11), 2);
        C.due("of 22: 5 is no price", x.who(0, 22, 1), 0);
        for (int n : new int[] {0, -1, 13, MOST, LEAST, 1 << 30, 1 << 31}) {
            RICH.refused("who of " + n, y -> y.who(2, 0, n), BAD);
            RICH.refused("who of " + n + ", BAD ahead of NULL", y -> y.who(3, 0, n), BAD);
        }
        C.due("24 items but for the last", Twins.rich().who(2, 15, 12), 2 + 4 + 32);
        C.due("24 items at the end", Twins.rich().who(2, 16, 12), 0);
        for (int[] p : new int[][] {{-1, 1}, {-2, 1}, {17, 12}, {39, 1}, {40, 1}, {38, 2}, {MOST, 1}, {LEAST, 12}}) {
            RICH.refused("who from " + p[0] + ", " + p[1], y -> y.who(2, p[0], p[1]), PLACE);
        }
        C.due("the last two items", Twins.rich().who(2, 38, 1), 0);
        RICH.refused("who of an empty row", y -> y.who(6, 0, 1), PLACE);
        RICH.refused("who, NULL ahead of PLACE", y -> y.who(3, -1, 1), NULL);
        for (int item : new int[] {-1, 15, MOST, LEAST}) {
            Twins odd = new Twins(C, () -> withItem(item));
            odd.refused("no cell " + item, y -> y.who(0, 0, 2), BAD);
            odd.refused("no cell " + item + ", PLACE ahead", y -> y.who(0, 2, 2), PLACE);
            odd.askedOfRows(item + " is behind them", y -> y.who(0, 0, 1), 2);
            odd.askedOfRows(item + " is a price", y -> y.who(0, 1, 1), 0);
        }
    }

    /** Row 0 has this ITEM at 2, between 3 4 and 0 5; the latest finding is NULL. */
    private static TideInches withItem(int item) {
        TideInches x = Twins.rich();
        x.set(0, 2, item);
        x.drop(3);
        return x;
    }

    private static int who(TideInches x, int... items) {
        Check.row(x, 7, items);
        return x.who(7, 0, items.length / 2);
    }

    private static void whoIsOfAllKinds() {
        // Cell n has n inches at 3, dry or wet: level 4.
        TideInches x = Check.isle("i4,4,3;habcdefghijaaaaa;b9,0;");
        for (int cell = 0; cell < 10; cell++) {
            for (int price = -1; price <= 30; price++) {
                int full = 3 * cell;
                int due = (price == full ? 2 : 0) + (price == full / 2 ? 4 : 0) + (price == full + 1 ? 8 : 0)
                    + (price == 3 ? 16 : 0) + (price == 0 ? 32 : 0);
                C.due(cell + " for " + price, who(x, cell, price), due);
            }
        }
        TideInches y = Check.isle("i4,4,3;habcdefghijaaaaa;b9,0;");
        C.due("cell 14", who(y, 14, 0), 2 + 4 + 32);
        C.due("two of a kind", who(y, 5, 15, 1, 3), 2);
        C.due("two of no kind", who(y, 5, 15, 1, 1), 0);
        C.due("one twice", who(y, 5, 15, 5, 15), 2);
        C.due("one twice, for two prices", who(y, 5, 15, 5, 16), 0);
    }

    private static void ringIsOfThreeToEight() {
        int[] many = {3, 5, 5, 5, 3, 5, 8, 8, 8, 5, 3, 5, 5, 5, 3};
        TideInches x = Check.isle("i0,0,1;hbbbbbbbbbbbbbbb;b99,0;l0,0;");
        for (int cell = 0; cell < 15; cell++) {
            C.due("how many round " + cell, x.ring(cell, 1), many[cell]);
            C.due("how much round " + cell, x.ring(cell, 0), many[cell]);
        }
        x.bid(0, 0);
        C.due("not itself, held", x.ring(0, 0), 3);
        C.due("one is held", x.ring(1, 0), 4);
        C.due("one is held, askew", x.ring(6, 0), 7);
        C.due("HELD or not", x.ring(6, 1), 8);
        C.due("two steps off", x.ring(2, 0), 5);
        C.due("two steps off, down", x.ring(10, 0), 3);
        // To a buyer, dry or wet, whoever there is.
        TideInches wet = Check.isle("i9,9,9;hjjjjjjjjjjjjjjj;l0,0;");
        C.due("wet", wet.ring(7, 0), 8 * 81);
        for (int cell = 0; cell < 15; cell++) {
            wet.bid(0, cell);
        }
        C.due("all are held", wet.ring(7, 0), 0);
        C.due("all are held, how many", wet.ring(7, 1), 8);
        for (int what : NO_CHOICE) {
            RICH.refused("ring, what " + what, y -> y.ring(0, what), BAD);
        }
    }

    private static void pursesAreOf1To12Cells() {
        TideInches x = Check.isle("i0,0,1;hbcdefghijaaaaaa;b9,0;");
        x.row(0, 0, 12);
        for (int k = 0; k < 12; k++) {
            x.set(0, k, k % 9);
        }
        // 1 to 9 inches are 45; then 1, 2, and the last: 3.
        C.due("1", x.purses(0, 0, 0, 1, 0), 1);
        C.due("1, the least", x.purses(0, 0, 0, 1, 1), 0);
        C.due("12", x.purses(0, 0, 0, 12, 0), 3);
        C.due("12, the least", x.purses(0, 0, 0, 12, 1), 48);
        C.due("the last", x.purses(0, 0, 11, 1, 0), 3);
        for (int n : new int[] {0, -1, 13, MOST, LEAST}) {
            RICH.refused("purses of " + n, y -> y.purses(0, 2, 0, n, 0), BAD);
            RICH.refused("purses of " + n + ", BAD ahead of NULL", y -> y.purses(0, 3, 0, n, 0), BAD);
        }
        for (int what : NO_CHOICE) {
            RICH.refused("purses, what " + what, y -> y.purses(0, 0, 0, 1, what), BAD);
            RICH.refused("purses, what " + what + ", BAD ahead of NULL", y -> y.purses(0, 3, 0, 1, what), BAD);
        }
        RICH.askedOfRows("at the end", y -> y.purses(0, 2, 28, 12, 1), 0);
        for (int[] p : new int[][] {{-1, 1}, {29, 12}, {40, 1}, {39, 2}, {MOST, 12}, {LEAST, 1}}) {
            RICH.refused("purses from " + p[0] + ", " + p[1], y -> y.purses(0, 2, p[0], p[1], 0), PLACE);
        }
        RICH.refused("purses of an empty row", y -> y.purses(0, 6, 0, 1, 0), PLACE);
        RICH.refused("purses, NULL ahead of PLACE", y -> y.purses(0, 3, -1, 1, 0), NULL);
        for (int item : new int[] {-1, 15, MOST, LEAST}) {
            Twins odd = new Twins(C, () -> withItem(item));
            odd.refused("no cell " + item, y -> y.purses(0, 0, 0, 5, 0), BAD);
            odd.refused("no cell " + item + ", the first", y -> y.purses(0, 0, 2, 3, 1), BAD);
            odd.refused("no cell " + item + ", the last", y -> y.purses(0, 0, 0, 3, 0), BAD);
            odd.refused("no cell " + item + ", PLACE ahead", y -> y.purses(0, 0, 2, 4, 0), PLACE);
            odd.askedOfRows(item + " is behind them", y -> y.purses(0, 0, 0, 2, 0), 0);
            odd.askedOfRows(item + " is ahead of them", y -> y.purses(0, 0, 3, 2, 0), 6);
        }
    }

    private static void pursesOf(TideInches x, int one, int many, int least, int... cells) {
        String told = one + " of " + Arrays.toString(cells);
        Check.row(x, 0, cells);
        C.due("how many, " + told, x.purses(one, 0, 0, cells.length, 0), many);
        C.due("the least, " + told, x.purses(one, 0, 0, cells.length, 1), least);
    }

    private static void pursesAre0To99() {
        // To a buyer cells 0, 1, 2 cost 81, 9, 0; to an abbey 40, 4, 0; to a sleeper 82, 10, 1; to a goat 9.
        TideInches x = Check.isle("i0,0,9;hjbaaaaaaaaaaaaa;b9,0;a9,0;z9,0;g9,0;l9,0;");
        pursesOf(x, 0, 81, 0, 0);
        pursesOf(x, 0, 9, 0, 1);
        pursesOf(x, 0, 9, 9, 1, 1);
        pursesOf(x, 0, 9, 81, 0, 1);
        pursesOf(x, 0, 19, 81, 0, 0);
        pursesOf(x, 0, 9, 90, 0, 1, 1);
        pursesOf(x, 0, 10, 90, 0, 1, 0);
        pursesOf(x, 0, 1, 99, 0, 1, 1, 1);
        pursesOf(x, 0, 1, 99, 0, 1, 1, 0);
        pursesOf(x, 0, 0, NONE, 0, 1, 1, 1, 1);
        pursesOf(x, 0, 0, NONE, 0, 0, 0);
        pursesOf(x, 0, 0, NONE, 2);
        pursesOf(x, 0, 0, NONE, 0, 2);
        pursesOf(x, 0, 81, 0, 2, 0);
        pursesOf(x, 1, 40, 40, 0, 0);
        pursesOf(x, 1, 4, 80, 0, 0, 1);
        pursesOf(x, 2, 10, 82, 0, 1);
        pursesOf(x, 2, 1, 0, 2);
        pursesOf(x, 3, 9, 9, 0, 2);
        pursesOf(x, 4, 0, NONE, 0, 1);
        TideInches y = Check.isle("i0,0,1;hjbaaaaaaaaaaaaa;b9,0;");
        pursesOf(y, 0, 1, 99, 0, 0, 0, 0, 0, 0, 0, 0, 0, 0, 0, 1);
        pursesOf(y, 0, 1, 91, 0, 0, 0, 0, 0, 0, 0, 0, 0, 0, 1, 1);
        TideInches z = Check.isle("i0,0,5;hjfbcaaaaaaaaaaa;b9,0;");
        pursesOf(z, 0, 0, NONE, 1, 1, 1, 1, 1);
        pursesOf(z, 0, 5, 90, 0, 0, 2);
        pursesOf(z, 0, 5, 95, 0, 0, 2, 2);
        pursesOf(z, 0, 5, 95, 0, 0, 2, 3);
        pursesOf(z, 0, 0, NONE, 0, 0, 3, 3);
    }

    private static void drawnIs0To60() {
        RICH.asked("0", x -> x.drawn(0, 1, 1), 97);
        for (int n : new int[] {-1, 61, MOST, LEAST}) {
            RICH.refused("drawn of " + n, x -> x.drawn(n, 1, 0), BAD);
        }
        for (int what : NO_CHOICE) {
            RICH.refused("drawn, what " + what, x -> x.drawn(1, 1, what), BAD);
        }
        // A goat with money enough, on land that is always dry, has all cells that have been drawn.
        for (int seed : new int[] {1, 2, 7, 4711, 999998, 999999}) {
            TideInches x = Check.isle("i0,0,1;hbbbbbbbbbbbbbbb;g99,0;");
            BigInteger drawn = BigInteger.valueOf(seed);
            Set<Integer> cells = new TreeSet<>();
            for (int n = 0; n <= 60; n++) {
                C.due("held behind " + n + " by " + seed, x.drawn(n, seed, 0), cells.size());
                C.due("purse behind " + n + " by " + seed, x.drawn(n, seed, 1), 99 - cells.size());
                drawn = drawn.multiply(BigInteger.valueOf(16807))
                    .mod(BigInteger.valueOf(2147483647));
                cells.add(drawn.mod(BigInteger.valueOf(15)).intValue());
            }
        }
    }

    private static void drawnIsByASeed() {
        for (int seed : new int[] {0, -1, 1000000, MOST, LEAST}) {
            RICH.refused("seed " + seed, x -> x.drawn(1, seed, 0), BAD);
            RICH.refused("seed " + seed + " of no hour", x -> x.drawn(0, seed, 1), BAD);
        }
        RICH.asked("seed 999999 of no hour", x -> x.drawn(0, 999999, 0), 3);
        // Of seed 1 the first X is 16807: of one bidder 0, of cells 7; the second 282475249: cell 4.
        TideInches x = Check.isle("i0,6,1;hjjjjjjjbjjjjjjj;b9,0;");
        C.due("bought, then lost by the hour", x.drawn(1, 1, 0), 0);
        C.due("paid", x.drawn(1, 1, 1), 8);
        C.due("9 inches of 8 pence", x.drawn(2, 1, 1), 8);
        TideInches all = Check.isle("i0,0,1;hjjjjjjjbjjjjjjj;b10,0;");
        C.due("9 inches of 9 pence", all.drawn(2, 1, 1), 0);
        C.due("both", all.drawn(2, 1, 0), 2);
        C.due("no more", all.drawn(60, 1, 0), 2);
        TideInches seal = Check.isle("i0,0,1;hjjjjjjjbjjjjjjj;l10,0;");
        C.due("dry to a seal", seal.drawn(60, 1, 0), 0);
        TideInches wet = Check.isle("i9,9,1;hjjjjjjjbjjjjjjj;b10,0;");
        C.due("wet to a buyer", wet.drawn(60, 1, 1), 10);
        TideInches held = Check.isle("i0,0,1;hjjjjjjjbjjjjjjj;b10,0;");
        held.bid(0, 7);
        C.due("held already", held.drawn(1, 1, 1), 9);
        C.due("behind 999 it goes on", Twins.late().drawn(2, 1, 0) >= 0 ? 1 : 0, 1);
    }
}
