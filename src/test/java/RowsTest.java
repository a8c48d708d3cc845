/** Promises 2 to 5, and what 35 and 36 tell of rows. */
public final class RowsTest {
    private static final int BAD = -1000001, NULL = -1000011, PLACE = -1000012, SIZE = -1000014, STORE = -1000015;
    private static final Check C = new Check();

    public static void main(String[] args) {
        rowIsMade();
        rowRefuses();
        rowStandsInPlaceOfAnother();
        setKeepsTheLowestBits();
        setRefuses();
        copyMoves();
        copyOverlaps();
        copyRefuses();
        dropLeavesNothing();
        statusTellsTheLatestFinding();
        C.end();
    }

    private static void rowIsMade() {
        TideInches x = new TideInches();
        C.due("row 0 items", x.row(0, 0, 0), 0);
        C.due("row 40 items", x.row(7, 2, 40), 40);
        C.due("two rows", x.count(0), 2);
        C.due("last item", x.set(7, 39, 5), 5);
        C.due("no item", x.set(0, 0, 5), PLACE);
    }

    private static void rowRefuses() {
        TideInches x = reader();
        C.due("row -1", x.row(-1, 0, 1), BAD);
        C.due("row 8", x.row(8, 0, 1), BAD);
        C.due("lane -1", x.row(0, -1, 1), BAD);
        C.due("lane 3", x.row(0, 3, 1), BAD);
        C.due("41 items", x.row(0, 0, 41), BAD);
        C.due("BAD ahead of SIZE", x.row(0, 3, -1), BAD);
        C.due("BAD row ahead of SIZE", x.row(8, 0, -1), BAD);
        C.due("SIZE", x.row(0, 0, -1), SIZE);
        C.due("SIZE, least", x.row(0, 0, Integer.MIN_VALUE), SIZE);
        C.due("no row", x.count(0), 0);
        x.row(0, 2, 3);
        x.set(0, 2, 7);
        C.due("SIZE where a row is", x.row(0, 1, -1), SIZE);
        x.row(1, 2, 1);
        C.due("that row stays", x.copy(0, 2, 1, 0, 1), 1);
        C.due("and its items", item(x, 0, 2), 7);
    }

    /** On this isle cell n costs n (0 to 9), so purses tells an item that no call tells by itself. */
    private static TideInches reader() {
        return Check.isle("i0,0,1;habcdefghijaaaaa;b0,0;");
    }

    private static int item(TideInches x, int row, int i) {
        return x.purses(0, row, i, 1, 0);
    }

    private static void rowStandsInPlaceOfAnother() {
        TideInches x = reader();
        x.row(3, 2, 4);
        x.set(3, 1, 9);
        C.due("anew", x.row(3, 0, 3), 3);
        C.due("one row", x.count(0), 1);
        C.due("its end", x.set(3, 3, 1), PLACE);
        C.due("its lane", x.set(3, 0, 200), -56);
        C.due("its items", item(x, 3, 1), 0);
    }

    private static void setKeepsTheLowestBits() {
        TideInches x = reader();
        x.row(0, 0, 2);
        x.row(1, 1, 2);
        x.row(2, 2, 2);
        C.due("byte", x.set(0, 0, 127), 127);
        C.due("byte 128", x.set(0, 0, 128), -128);
        C.due("byte 256", x.set(0, 0, 256), 0);
        C.due("byte -129", x.set(0, 0, -129), 127);
        C.due("byte 511", x.set(0, 1, 511), -1);
        C.due("short", x.set(1, 0, 32767), 32767);
        C.due("short 32768", x.set(1, 0, 32768), -32768);
        C.due("short 65536", x.set(1, 0, 65537), 1);
        C.due("short -32769", x.set(1, 0, -32769), 32767);
        C.due("int", x.set(2, 0, Integer.MAX_VALUE), Integer.MAX_VALUE);
        C.due("int least", x.set(2, 1, Integer.MIN_VALUE), Integer.MIN_VALUE);
        C.due("int 65536", x.set(2, 1, 65536), 65536);
        x.set(0, 0, 264);
        C.due("kept as it is then", item(x, 0, 0), 8);
    }

    private static void setRefuses() {
        TideInches x = new TideInches();
        C.due("row -1", x.set(-1, 0, 0), BAD);
        C.due("row 8", x.set(8, 0, 0), BAD);
        C.due("missing", x.set(0, 0, 0), NULL);
        C.due("missing, ahead of its place", x.set(0, -1, 0), NULL);
        x.row(0, 1, 3);
        C.due("place -1", x.set(0, -1, 0), PLACE);
        C.due("place 3", x.set(0, 3, 0), PLACE);
        C.due("place far", x.set(0, Integer.MAX_VALUE, 0), PLACE);
        C.due("place far below", x.set(0, Integer.MIN_VALUE, 0), PLACE);
        C.due("place 2", x.set(0, 2, 6), 6);
    }

    private static void copyMoves() {
        TideInches x = reader();
        Check.row(x, 0, 1, 2, 3, 4, 5);
        Check.row(x, 1, 9, 8, 7);
        C.due("two", x.copy(0, 3, 1, 1, 2), 2);
        C.due("item 0", item(x, 1, 0), 9);
        C.due("item 1", item(x, 1, 1), 4);
        C.due("item 2", item(x, 1, 2), 5);
        C.due("from", item(x, 0, 3), 4);
        C.due("none at the ends", x.copy(0, 5, 1, 3, 0), 0);
        C.due("all", x.copy(1, 0, 0, 2, 3), 3);
        C.due("item 2 of all", item(x, 0, 2), 9);
        C.due("item 1 of all", item(x, 0, 1), 2);
        C.due("item 4 of all", item(x, 0, 4), 5);
    }

    private static void copyOverlaps() {
        TideInches x = reader();
        Check.row(x, 0, 1, 2, 3, 4, 5);
        C.due("upwards", x.copy(0, 0, 0, 1, 4), 4);
        int[] up = {1, 1, 2, 3, 4};
        for (int i = 0; i < 5; i++) {
            C.due("upwards " + i, item(x, 0, i), up[i]);
        }
        TideInches y = reader();
        Check.row(y, 0, 1, 2, 3, 4, 5);
        C.due("downwards", y.copy(0, 1, 0, 0, 4), 4);
        int[] down = {2, 3, 4, 5, 5};
        for (int i = 0; i < 5; i++) {
            C.due("downwards " + i, item(y, 0, i), down[i]);
        }
    }

    private static void copyRefuses() {
        TideInches x = new TideInches();
        x.row(0, 2, 3);
        C.due("row -1", x.copy(-1, 0, 0, 0, 1), BAD);
        C.due("row 8", x.copy(0, 0, 8, 0, 1), BAD);
        C.due("BAD ahead of NULL", x.copy(1, 0, 8, 0, 1), BAD);
        C.due("missing from", x.copy(1, 0, 0, 0, 1), NULL);
        C.due("missing to", x.copy(0, 0, 1, 0, 1), NULL);
        C.due("missing both", x.copy(1, -1, 2, 0, 1), NULL);
        x.row(1, 1, 3);
        C.due("STORE", x.copy(0, 0, 1, 0, 1), STORE);
        C.due("STORE ahead of PLACE", x.copy(0, -1, 1, 0, 9), STORE);
        C.due("STORE of none", x.copy(0, 0, 1, 0, 0), STORE);
        x.row(2, 2, 2);
        C.due("i below", x.copy(0, -1, 2, 0, 1), PLACE);
        C.due("j below", x.copy(0, 0, 2, -1, 1), PLACE);
        C.due("n below", x.copy(0, 0, 2, 0, -1), PLACE);
        C.due("from beyond", x.copy(0, 2, 2, 0, 2), PLACE);
        C.due("to beyond", x.copy(0, 0, 2, 1, 2), PLACE);
        C.due("none beyond from", x.copy(0, 4, 2, 0, 0), PLACE);
        C.due("none beyond to", x.copy(0, 0, 2, 3, 0), PLACE);
        C.due("far", x.copy(0, Integer.MAX_VALUE, 2, 0, Integer.MAX_VALUE), PLACE);
        C.due("far 1", x.copy(0, Integer.MAX_VALUE, 2, 0, 1), PLACE);
        C.due("far 2", x.copy(0, 1, 2, 1, Integer.MAX_VALUE), PLACE);
        C.due("far below", x.copy(0, 0, 2, 0, Integer.MIN_VALUE), PLACE);
        C.due("as much as there is", x.copy(0, 1, 2, 0, 2), 2);
    }

    private static void dropLeavesNothing() {
        TideInches x = reader();
        x.row(4, 1, 17);
        C.due("row -1", x.drop(-1), BAD);
        C.due("row 8", x.drop(8), BAD);
        C.due("missing", x.drop(3), NULL);
        C.due("17", x.drop(4), 17);
        C.due("no rows", x.count(0), 0);
        C.due("again", x.drop(4), NULL);
        C.due("set", x.set(4, 0, 1), NULL);
        x.row(4, 1, 1);
        x.set(4, 0, 9);
        x.drop(4);
        x.row(4, 1, 0);
        C.due("none in it", x.drop(4), 0);
        x.row(4, 2, 1);
        C.due("an old item", item(x, 4, 0), 0);
    }

    private static void statusTellsTheLatestFinding() {
        TideInches x = new TideInches();
        C.due("at first", x.status(), 0);
        x.drop(0);
        C.due("NULL", x.status(), 1);
        x.row(9, 0, 0);
        C.due("BAD leaves it", x.status(), 1);
        x.feed(1);
        x.fault();
        x.undo();
        x.count(0);
        C.due("others leave it", x.status(), 1);
        x.row(0, 0, -1);
        C.due("SIZE", x.status(), 4);
        x.row(0, 0, 2);
        C.due("none of row", x.status(), 0);
        x.set(0, 2, 1);
        C.due("PLACE", x.status(), 2);
        x.set(0, 1, 1);
        C.due("none of set", x.status(), 0);
        x.row(1, 1, 2);
        x.copy(0, 0, 1, 0, 1);
        C.due("STORE", x.status(), 5);
        x.copy(0, 0, 0, 1, 1);
        C.due("none of copy", x.status(), 0);
        x.drop(5);
        x.drop(1);
        C.due("none of drop", x.status(), 0);
    }
}
