/** The boundaries that "Terms", part 1, names of ROWS, and promises 2 to 5 and 36: a method a sentence. */
public final class BoundsRowsTest {
    private static final int BAD = -1000001;
    private static final int NULL = -1000011, PLACE = -1000012, SIZE = -1000014, STORE = -1000015;
    private static final int MOST = Integer.MAX_VALUE, LEAST = Integer.MIN_VALUE;
    private static final Check C = new Check();
    private static final Twins RICH = new Twins(C, Twins::rich);
    private static final Twins BARE = new Twins(C, Twins::bare);

    public static void main(String[] args) {
        rowsAreMissingAtFirst();
        rowsAre0To7();
        lanesAre0To2();
        itemsAre0To40();
        itemsAre0AtFirst();
        itemsKeepTheLowestBits();
        placesEndWithTheRow();
        copyKeepsItsPlaces();
        copyTakesThemAsTheyWereAhead();
        copyLooksAtTheLane();
        dropTellsHowManyThereWere();
        refusalsComeInTheirOrder();
        statusIsOfTheLatest();
        C.end();
    }

    /** On this isle cell n costs n (0 to 9), so that purses tells items of 0 to 9. */
    private static TideInches reader() {
        return Check.isle("i0,0,1;habcdefghijaaaaa;b0,0;");
    }

    private static void items(String told, TideInches x, int row, int... items) {
        for (int i = 0; i < items.length; i++) {
            C.due(told + ", item " + i, x.purses(0, row, i, 1, 0), items[i]);
        }
    }

    private static void rowsAreMissingAtFirst() {
        TideInches x = reader();
        for (int row = 0; row < 8; row++) {
            C.due("set " + row, x.set(row, 0, 1), NULL);
            C.due("drop " + row, x.drop(row), NULL);
            C.due("copy " + row, x.copy(row, 0, row, 0, 0), NULL);
            C.due("raised " + row, x.raised(row, 0, 1), NULL);
            C.due("who " + row, x.who(row, 0, 1), NULL);
            C.due("purses " + row, x.purses(0, row, 0, 1, 0), NULL);
        }
        C.due("none", x.count(0), 0);
        for (int row = 0; row < 8; row++) {
            x.row(row, row % 3, row);
            C.due("so many", x.count(0), row + 1);
        }
        RICH.refused("set, missing", y -> y.set(3, 0, 1), NULL);
        RICH.refused("drop, missing", y -> y.drop(7), NULL);
        RICH.refused("copy, a missing", y -> y.copy(4, 0, 0, 0, 1), NULL);
        RICH.refused("copy, b missing", y -> y.copy(0, 0, 4, 0, 1), NULL);
        RICH.refused("raised, missing", y -> y.raised(5, 0, 1), NULL);
        RICH.refused("who, missing", y -> y.who(5, 0, 1), NULL);
        RICH.refused("purses, missing", y -> y.purses(0, 5, 0, 1, 0), NULL);
        BARE.refused("set, missing", y -> y.set(3, 0, 1), NULL);
        BARE.refused("drop, missing", y -> y.drop(3), NULL);
    }

    private static void rowsAre0To7() {
        TideInches x = reader();
        for (int row : new int[] {0, 7}) {
            C.due("row " + row, x.row(row, 2, 2), 2);
            C.due("set " + row, x.set(row, 0, 5), 5);
            C.due("copy " + row, x.copy(row, 0, row, 1, 1), 1);
            C.due("raised " + row, x.raised(row, 0, 1), 0);
            C.due("who " + row, x.who(row, 0, 1), 2);
            C.due("purses " + row, x.purses(0, row, 0, 1, 0), 5);
        }
        C.due("from 0 to 7", x.copy(0, 0, 7, 0, 2), 2);
        C.due("from 7 to 0", x.copy(7, 0, 0, 0, 2), 2);
        C.due("drop 0", x.drop(0), 2);
        C.due("drop 7", x.drop(7), 2);
        for (int row : new int[] {-1, 8, MOST, LEAST}) {
            RICH.refused("row " + row, y -> y.row(row, 0, 1), BAD);
            RICH.refused("set " + row, y -> y.set(row, 0, 1), BAD);
            RICH.refused("copy from " + row, y -> y.copy(row, 0, 0, 0, 1), BAD);
            RICH.refused("copy to " + row, y -> y.copy(0, 0, row, 0, 1), BAD);
            RICH.refused("drop " + row, y -> y.drop(row), BAD);
            RICH.refused("raised " + row, y -> y.raised(row, 0, 1), BAD);
            RICH.refused("who " + row, y -> y.who(row, 0, 1), BAD);
            RICH.refused("purses " + row, y -> y.purses(0, row, 0, 1, 0), BAD);
        }
        BARE.refused("row 8", y -> y.row(8, 0, 1), BAD);
    }

    private static void lanesAre0To2() {
        TideInches x = reader();
        int[] of40000 = {64, -25536, 40000};
        for (int lane = 0; lane < 3; lane++) {
            C.due("lane " + lane, x.row(lane, lane, 1), 1);
            C.due("of lane " + lane, x.set(lane, 0, 40000), of40000[lane]);
        }
        for (int lane : new int[] {-1, 3, MOST, LEAST}) {
            RICH.refused("lane " + lane, y -> y.row(3, lane, 1), BAD);
            RICH.refused("lane " + lane + " where a row is", y -> y.row(0, lane, 1), BAD);
            RICH.refused("lane " + lane + " of none", y -> y.row(0, lane, 0), BAD);
        }
    }

    private static void itemsAre0To40() {
        TideInches x = reader();
        C.due("0", x.row(0, 0, 0), 0);
        C.due("there is that row", x.count(0), 1);
        C.due("no item", x.set(0, 0, 1), PLACE);
        C.due("no item to drop", x.drop(0), 0);
        C.due("there is none", x.count(0), 0);
        C.due("1", x.row(0, 0, 1), 1);
        C.due("one item", x.set(0, 0, 1), 1);
        C.due("no second", x.set(0, 1, 1), PLACE);
        for (int lane = 0; lane < 3; lane++) {
            C.due("40", x.row(7, lane, 40), 40);
            C.due("the last", x.set(7, 39, 1), 1);
            C.due("none behind it", x.set(7, 40, 1), PLACE);
        }
        C.due("40 are dropped", x.drop(7), 40);
        for (int n : new int[] {41, MOST}) {
            RICH.refused(n + " items", y -> y.row(3, 0, n), BAD);
            RICH.refused(n + " items where a row is", y -> y.row(2, 1, n), BAD);
        }
        for (int n : new int[] {-1, LEAST}) {
            RICH.refused(n + " items", y -> y.row(3, 0, n), SIZE);
            RICH.refused(n + " items where a row is", y -> y.row(2, 1, n), SIZE);
        }
        BARE.refused("-1 items", y -> y.row(0, 2, -1), SIZE);
    }

    private static void itemsAre0AtFirst() {
        TideInches x = reader();
        x.row(5, 2, 40);
        for (int i = 0; i < 40; i += 3) {
            C.due("at first, item " + i, x.purses(0, 5, i, 1, 1), -1000000);
        }
        for (int i = 0; i < 40; i++) {
            x.set(5, i, 9);
        }
        x.row(4, 2, 1);
        x.set(4, 0, 7);
        x.row(6, 2, 1);
        x.set(6, 0, 8);
        x.row(5, 0, 3);
        items("in place of 9s", x, 5, 0, 0, 0);
        C.due("three", x.set(5, 3, 1), PLACE);
        x.row(5, 1, 40);
        for (int i = 0; i < 40; i++) {
            C.due("longer anew, item " + i, x.purses(0, 5, i, 1, 0), 0);
        }
        items("the row below stays", x, 4, 7);
        items("the row above stays", x, 6, 8);
    }

    private static void itemsKeepTheLowestBits() {
        int[][] due = {
            {0, 127, 127}, {0, 128, -128}, {0, -128, -128}, {0, -129, 127}, {0, 255, -1}, {0, 256, 0}, {0, -256, 0},
            {0, -1, -1}, {0, MOST, -1}, {0, LEAST, 0}, {0, 32768, 0}, {0, 65535, -1},
            {1, 127, 127}, {1, 128, 128}, {1, 255, 255}, {1, 32767, 32767}, {1, 32768, -32768}, {1, -32768, -32768},
            {1, -32769, 32767}, {1, 65535, -1}, {1, 65536, 0}, {1, MOST, -1}, {1, LEAST, 0}, {1, -65536, 0},
            {2, 32768, 32768}, {2, 65536, 65536}, {2, MOST, MOST}, {2, LEAST, LEAST}, {2, -1, -1}};
        TideInches x = reader();
        for (int lane = 0; lane < 3; lane++) {
            x.row(lane, lane, 2);
        }
        for (int[] one : due) {
            C.due("lane " + one[0] + ", " + one[1], x.set(one[0], 1, one[1]), one[2]);
        }
        for (int lane = 0; lane < 2; lane++) {
            int over = lane == 0 ? 256 : 65536;
            x.set(lane, 1, over + 6);
            items("kept as it is then", x, lane, 0, 6);
            x.set(lane, 1, 4 - over);
            items("kept as it is then", x, lane, 0, 4);
        }
        x.set(2, 1, 256 + 6);
        C.due("an int keeps all", x.purses(0, 2, 1, 1, 0), BAD);
    }

    private static void placesEndWithTheRow() {
        TideInches x = Twins.rich();
        C.due("the first", x.set(1, 0, 1), 1);
        C.due("the last", x.set(1, 2, 1), 1);
        C.due("the last of 40", x.set(2, 39, 1), 1);
        for (int i : new int[] {-1, 3, 40, MOST, LEAST}) {
            RICH.refused("place " + i + " of 3", y -> y.set(1, i, 5), PLACE);
        }
        RICH.refused("place -1 of 40", y -> y.set(2, -1, 5), PLACE);
        RICH.refused("place 40 of 40", y -> y.set(2, 40, 5), PLACE);
        RICH.refused("place 0 of none", y -> y.set(6, 0, 5), PLACE);
        BARE.refused("place 5 of 5", y -> y.set(0, 5, 5), PLACE);
    }

    private static void copyKeepsItsPlaces() {
        TideInches x = reader();
        Check.row(x, 0, 1, 2, 3, 4, 5);
        Check.row(x, 3, 6, 7, 8);
        C.due("all that fit", x.copy(0, 0, 3, 0, 3), 3);
        items("from the beginning", x, 3, 1, 2, 3);
        C.due("the last three", x.copy(0, 2, 3, 0, 3), 3);
        items("to the end", x, 3, 3, 4, 5);
        C.due("to the last two", x.copy(3, 0, 0, 3, 2), 2);
        items("the last two", x, 0, 1, 2, 3, 3, 4);
        C.due("the last to the last", x.copy(0, 4, 3, 2, 1), 1);
        items("the last", x, 3, 3, 4, 4);
        C.due("none at both ends", x.copy(0, 5, 3, 3, 0), 0);
        C.due("none at both beginnings", x.copy(0, 0, 3, 0, 0), 0);
        x.row(5, 2, 0);
        C.due("none of none", x.copy(5, 0, 5, 0, 0), 0);
        C.due("all 40", all40(), 40);
        // Row 0 has 5 ITEMS; that with itself leaves both ends in it.
        int[][] beyond = {
            {-1, 0, 1}, {0, -1, 1}, {0, 0, -1}, {0, 0, 6}, {1, 0, 5}, {0, 1, 5}, {4, 0, 2}, {0, 4, 2}, {5, 0, 1},
            {0, 5, 1}, {6, 0, 0}, {0, 6, 0}, {-1, 0, 0}, {0, -1, 0}, {6, 0, -1}, {0, 6, -1}, {MOST, 0, 1}, {0, MOST, 1},
            {0, 0, MOST}, {1, 1, MOST}, {MOST, MOST, MOST}, {LEAST, 0, 1}, {0, LEAST, 1}, {0, 0, LEAST},
            {LEAST, LEAST, LEAST}, {MOST, 0, LEAST}, {-1, 0, 6}, {-2, 0, 2}, {0, -2, 2}};
        for (int[] p : beyond) {
            String told = "copy " + p[0] + ", " + p[1] + ", " + p[2];
            RICH.refused(told, y -> y.copy(0, p[0], 0, p[1], p[2]), PLACE);
        }
        RICH.refused("one to an empty row", y -> y.copy(0, 0, 6, 0, 1), PLACE);
        RICH.refused("one of an empty row", y -> y.copy(6, 0, 0, 0, 1), PLACE);
        BARE.refused("beyond, without an isle", y -> y.copy(0, 0, 0, 1, 5), PLACE);
    }

    private static int all40() {
        TideInches x = new TideInches();
        x.row(0, 1, 40);
        x.row(7, 1, 40);
        return x.copy(7, 0, 0, 0, 40);
    }

    private static void copyTakesThemAsTheyWereAhead() {
        TideInches x = reader();
        Check.row(x, 0, 1, 2, 3, 4, 5, 6);
        x.copy(0, 0, 0, 1, 5);
        items("1 up", x, 0, 1, 1, 2, 3, 4, 5);
        x.copy(0, 1, 0, 0, 5);
        items("1 down", x, 0, 1, 2, 3, 4, 5, 5);
        x.copy(0, 0, 0, 3, 3);
        items("3 up", x, 0, 1, 2, 3, 1, 2, 3);
        x.copy(0, 2, 0, 2, 4);
        items("to where it is", x, 0, 1, 2, 3, 1, 2, 3);
        Check.row(x, 1, 9, 8);
        x.copy(0, 1, 1, 0, 2);
        items("what is copied stays", x, 0, 1, 2, 3, 1, 2, 3);
        x.set(0, 1, 7);
        items("and they part", x, 1, 2, 3);
    }

    private static void copyLooksAtTheLane() {
        for (int a = 0; a < 3; a++) {
            for (int b = 0; b < 3; b++) {
                TideInches x = new TideInches();
                x.row(0, a, 3);
                x.row(1, b, 3);
                C.due("lanes " + a + " and " + b, x.copy(0, 0, 1, 0, 3), a == b ? 3 : STORE);
                C.due("none of lanes " + a + " and " + b, x.copy(0, 0, 1, 0, 0), a == b ? 0 : STORE);
            }
        }
        RICH.refused("ints to bytes", y -> y.copy(0, 0, 1, 0, 3), STORE);
        RICH.refused("bytes to ints", y -> y.copy(1, 0, 0, 0, 3), STORE);
        RICH.refused("bytes to shorts", y -> y.copy(1, 0, 2, 0, 3), STORE);
        RICH.refused("none of shorts to ints", y -> y.copy(2, 0, 6, 0, 0), STORE);
    }

    private static void dropTellsHowManyThereWere() {
        TideInches x = new TideInches();
        for (int n : new int[] {0, 1, 39, 40}) {
            x.row(3, 0, n);
            C.due("drop of " + n, x.drop(3), n);
            C.due("missing then", x.drop(3), NULL);
            C.due("none", x.count(0), 0);
        }
        RICH.refused("dropped already", y -> y.drop(3), NULL);
    }

    private static void refusalsComeInTheirOrder() {
        RICH.refused("BAD lane ahead of SIZE", y -> y.row(0, 3, -1), BAD);
        RICH.refused("BAD row ahead of SIZE", y -> y.row(-1, 0, -1), BAD);
        RICH.refused("BAD ahead of NULL", y -> y.copy(4, 0, 8, 0, 1), BAD);
        RICH.refused("BAD ahead of NULL, the other one", y -> y.copy(8, 0, 4, 0, 1), BAD);
        RICH.refused("BAD ahead of PLACE", y -> y.set(8, -1, 0), BAD);
        RICH.refused("NULL ahead of PLACE", y -> y.set(4, -1, 0), NULL);
        RICH.refused("NULL ahead of PLACE of the other", y -> y.copy(0, -1, 4, 0, 1), NULL);
        RICH.refused("NULL ahead of n below 0", y -> y.copy(4, 0, 0, 0, -1), NULL);
        RICH.refused("STORE ahead of PLACE i", y -> y.copy(0, -1, 1, 0, 1), STORE);
        RICH.refused("STORE ahead of PLACE j", y -> y.copy(0, 0, 1, 3, 1), STORE);
        RICH.refused("STORE ahead of PLACE n", y -> y.copy(0, 0, 1, 0, -1), STORE);
    }

    private static void statusIsOfTheLatest() {
        TideInches x = Twins.rich();
        C.due("PLACE", x.status(), 2);
        x.row(3, 0, 41);
        x.set(8, 0, 0);
        x.copy(-1, 0, 0, 0, 0);
        x.drop(8);
        x.raised(0, 0, 13);
        x.who(0, 0, 13);
        x.who(0, 4, 1);
        C.due("who PLACE", x.status(), 2);
        x.purses(9, 0, 0, 1, 0);
        x.as(9, 0);
        C.due("BAD leaves it", x.status(), 2);
        C.due("KIND", x.as(0, 2) + x.status(), -1000013 + 3);
        C.due("SIZE", x.row(3, 0, -1) + x.status(), SIZE + 4);
        C.due("NULL", x.drop(3) + x.status(), NULL + 1);
        C.due("STORE", x.copy(0, 0, 1, 0, 0) + x.status(), STORE + 5);
        for (int i = 0; i < 8; i++) {
            x.drop(7);
            int answer = withoutFinding(x, i);
            C.due("no finding of call " + i + ", which answers " + answer, x.status(), 0);
        }
        C.due("at first", new TideInches().status(), 0);
        C.due("a first call that is BAD", new TideInches().row(8, 0, 0) + new TideInches().status(), BAD);
    }

    /** Each of the calls that can have a FINDING, so that it has none. */
    private static int withoutFinding(TideInches x, int call) {
        switch (call) {
            case 0: return x.row(3, 0, 0);
            case 1: return x.set(0, 0, 5);
            case 2: return x.copy(0, 0, 0, 0, 0);
            case 3: return x.drop(3);
            case 4: return x.raised(0, 0, 1);
            case 5: return x.who(0, 0, 1);
            case 6: return x.purses(0, 0, 0, 1, 0);
            default: return x.as(0, 1);
        }
    }
}
