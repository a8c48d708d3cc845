/** Promises 31 to 36: kinds, asks, the trace, counts, and status. */
public final class AskedTest {
    private static final int NONE = -1000000, BAD = -1000001, KIND = -1000013;
    private static final String ISLE = "i1,7,2;hacdcadgjfbaeiec;b50,7;a20,6;z30,12;g9,8;l5,0;";
    private static final Check C = new Check();

    public static void main(String[] args) {
        kindsAreTold();
        takenAs();
        sizesAreAsked();
        marksAreAsked();
        sizesGoByPurses();
        traceIsTold();
        countsAreTold();
        statusIsTold();
        constantsStand();
        C.end();
    }

    private static void kindsAreTold() {
        TideInches x = Check.isle(ISLE);
        for (int one = 0; one < 5; one++) {
            C.due("kind " + one, x.kind(one), one + 1);
        }
        C.due("-1", x.kind(-1), BAD);
        C.due("5", x.kind(5), BAD);
        C.due("no isle", new TideInches().kind(0), BAD);
        C.due("one alone", Check.isle("i1,7,2;hacdcadgjfbaeiec;l5,0;").kind(1), BAD);
    }

    private static void takenAs() {
        TideInches x = Check.isle(ISLE);
        boolean[][] is = {
            {true, true, false, false, false, false},
            {true, true, true, false, false, false},
            {true, true, false, true, false, false},
            {true, false, false, false, true, false},
            {true, false, false, false, true, true}};
        for (int one = 0; one < 5; one++) {
            for (int kind = 0; kind < 6; kind++) {
                C.due("as " + one + ", " + kind, x.as(one, kind), is[one][kind] ? one : KIND);
                C.due("its status", x.status(), is[one][kind] ? 0 : 3);
            }
        }
        C.due("its kind stays", x.kind(4), 5);
        C.due("one -1", x.as(-1, 0), BAD);
        C.due("one 5", x.as(5, 0), BAD);
        C.due("kind -1", x.as(0, -1), BAD);
        C.due("kind 6", x.as(0, 6), BAD);
        C.due("no isle", new TideInches().as(0, 0), BAD);
    }

    private static void asked(TideInches x, int one, int what, int due, int... bodies) {
        C.due("ask " + one + ", " + what, x.ask(one, what), due);
        for (int i = 0; i < bodies.length; i++) {
            C.due("body " + i + " of " + one + ", " + what, x.trace(i), bodies[i]);
        }
        for (int i = bodies.length; i < 17; i++) {
            C.due("no body " + i + " of " + one + ", " + what, x.trace(i), NONE);
        }
    }

    private static void sizesAreAsked() {
        TideInches x = Check.isle(ISLE);
        asked(x, 0, 0, 50 + 7, 11, 10, 21, 20);
        asked(x, 1, 0, -(20 + 2 * (1 + 6)), 12, 11, 10, 24, 21, 20);
        asked(x, 2, 0, 30 + 2 + 12 - 1000, 11, 10, 22, 21, 20);
        asked(x, 3, 0, 9 - 100, 13, 10);
        asked(x, 4, 0, 2 * (5 - 100), 14, 13, 10);
    }

    private static void marksAreAsked() {
        TideInches x = Check.isle(ISLE);
        asked(x, 0, 1, 7, 21, 20);
        asked(x, 1, 1, 2 * (1 + 6), 24, 21, 20);
        asked(x, 2, 1, 2 + 12 - 1000, 22, 21, 20);
        asked(x, 3, 1, 3 + 91, 23, 20, 13, 10);
        asked(x, 4, 1, 4 + 190, 23, 20, 14, 13, 10);
    }

    private static void sizesGoByPurses() {
        TideInches x = Check.isle(ISLE);
        x.bid(0, 8);
        x.bid(3, 7);
        asked(x, 0, 0, 40 + 7, 11, 10, 21, 20);
        asked(x, 3, 1, 3 + 93, 23, 20, 13, 10);
        x.undo();
        asked(x, 3, 0, -91, 13, 10);
    }

    private static void traceIsTold() {
        TideInches x = Check.isle(ISLE);
        C.due("nothing yet", x.trace(0), NONE);
        x.ask(0, 0);
        C.due("one -1", x.ask(-1, 0), BAD);
        C.due("one 5", x.ask(5, 0), BAD);
        C.due("what -1", x.ask(0, -1), BAD);
        C.due("what 2", x.ask(0, 2), BAD);
        C.due("it stays", x.trace(0), 11);
        C.due("it stays", x.trace(3), 20);
        C.due("-1", x.trace(-1), NONE);
        C.due("4", x.trace(4), NONE);
        C.due("16", x.trace(16), NONE);
        C.due("far", x.trace(Integer.MAX_VALUE), NONE);
        C.due("far below", x.trace(Integer.MIN_VALUE), NONE);
        x.ask(3, 0);
        C.due("anew", x.trace(0), 13);
        C.due("anew", x.trace(2), NONE);
        C.due("no isle", new TideInches().ask(0, 0), BAD);
    }

    private static void countsAreTold() {
        TideInches x = Check.isle(ISLE);
        x.row(2, 0, 0);
        x.row(7, 2, 9);
        x.bid(0, 8);
        x.bid(3, 7);
        x.hours(2);
        x.feed(1);
        x.feed(2);
        x.feed(3);
        int[] counts = {2, 5, 3, 2, 2, 384, 4, 3};
        for (int what = 0; what < 8; what++) {
            C.due("count " + what, x.count(what), counts[what]);
        }
        C.due("-1", x.count(-1), BAD);
        C.due("8", x.count(8), BAD);
        C.due("8 without an isle", new TideInches().count(8), BAD);
    }

    private static void statusIsTold() {
        TideInches x = Check.isle(ISLE);
        C.due("at first", x.status(), 0);
        x.as(0, 5);
        C.due("KIND", x.status(), 3);
        x.as(0, 6);
        x.as(9, 0);
        C.due("BAD leaves it", x.status(), 3);
        x.bid(0, 8);
        x.ask(0, 0);
        x.kind(0);
        C.due("others leave it", x.status(), 3);
        C.due("status leaves it", x.status(), 3);
        Check.tell(x, ISLE);
        x.isle();
        C.due("an isle leaves it", x.status(), 3);
        x.as(0, 0);
        C.due("none", x.status(), 0);
        x.copy(0, 0, 0, 0, 0);
        C.due("NULL", x.status(), 1);
        x.as(4, 4);
        C.due("none again", x.status(), 0);
    }

    private static void constantsStand() {
        C.due("NONE", TideInches.NONE, NONE);
        C.due("BAD", TideInches.BAD, BAD);
        C.due("STATE", TideInches.STATE, -1000002);
        C.due("FULL", TideInches.FULL, -1000003);
    }
}
