import java.util.ArrayList;
import java.util.List;
import java.util.function.Supplier;
import java.util.function.ToIntFunction;

/**
 * Objects made twice alike: what is done to one of them leaves it like the other, as far as later calls can tell.
 * The looks are many, since an object may be used for 512 calls alone; each begins with objects of its own.
 */
final class Twins {
    private static final int BAD = -1000001, FOUND = -1000010;
    private static final String REST = "i1,7,2;hacdcadgjfbaeiec;b50,7;a20,6;z30,12;g9,8;l5,0;";
    private static final String READER = "i0,0,1;habcdefghijaaaaa;b0,0;";
    private static final int BEGUN = 30;
    private static final int LOOKS = 9;

    private final Check check;
    private final Supplier<TideInches> maker;

    Twins(Check check, Supplier<TideInches> maker) {
        this.check = check;
        this.maker = maker;
    }

    /** The answer is due, a refusal or a finding; nothing changes but status, by a finding. */
    void refused(String told, ToIntFunction<TideInches> call, int due) {
        boolean isFinding = due < FOUND;
        check.due(told + " is no refusal: due", due <= BAD ? 1 : 0, 1);
        leaves(told, call, due, isFinding ? FOUND - due : maker.get().status());
    }

    /** The answer is due, nothing changes. */
    void asked(String told, ToIntFunction<TideInches> call, int due) {
        leaves(told, call, due, maker.get().status());
    }

    /** The answer is due, nothing changes but that there was no finding. */
    void askedOfRows(String told, ToIntFunction<TideInches> call, int due) {
        leaves(told, call, due, 0);
    }

    private void leaves(String told, ToIntFunction<TideInches> call, int due, int status) {
        check.due(told, call.applyAsInt(maker.get()), due);
        for (int look = 0; look < LOOKS; look++) {
            TideInches called = maker.get();
            call.applyAsInt(called);
            check.due("status behind " + told, called.status(), status);
            List<Integer> here = look(look, called);
            List<Integer> there = look(look, maker.get());
            check.due("look " + look + " behind " + told, here.equals(there) ? 1 : 0, 1);
        }
    }

    private static List<Integer> look(int number, TideInches x) {
        List<Integer> seen = new ArrayList<>();
        switch (number) {
            case 0:
                now(x, seen);
                break;
            case 1:
            case 2:
            case 3:
            case 4:
                undone(x, seen, number);
                break;
            case 5:
            case 6:
                seen.add(x.restore(number - 5));
                now(x, seen);
                break;
            case 7:
                tape(x, seen);
                break;
            default:
                rows(x, seen);
                break;
        }
        return seen;
    }

    private static void now(TideInches x, List<Integer> seen) {
        for (int what = 0; what < 8; what++) {
            seen.add(x.count(what));
        }
        for (int i = 0; i < 17; i++) {
            seen.add(x.trace(i));
        }
        seen.add(x.fault());
        for (int cell = 0; cell < 15; cell++) {
            seen.add(x.cell(cell, 0));
            seen.add(x.cell(cell, 1));
        }
        for (int one = 0; one < 5; one++) {
            seen.add(x.kind(one));
            seen.add(x.bidder(one, 0));
            seen.add(x.bidder(one, 1));
            seen.add(x.bidder(one, 2));
        }
        for (int n = 0; n <= 12; n++) {
            seen.add(x.ahead(n, 0));
        }
    }

    private static void undone(TideInches x, List<Integer> seen, int number) {
        int left = 1;
        for (int i = 0; i < 25 && left >= 0; i++) {
            left = x.undo();
            seen.add(left);
            for (int one = 0; one < 5 && number <= 2; one++) {
                seen.add(x.bidder(one, number == 1 ? 0 : 2));
            }
            for (int cell = number - 3; cell < 15 && number >= 3; cell += 2) {
                seen.add(x.cell(cell, 0));
            }
            seen.add(x.count(4));
        }
    }

    /** The tape of the twins has the beginning of an isle: what is on it tells by reading it with the rest. */
    private static void tape(TideInches x, List<Integer> seen) {
        for (int i = BEGUN; i < REST.length(); i++) {
            seen.add(x.feed(REST.charAt(i)));
        }
        seen.add(x.isle());
        seen.add(x.fault());
        now(x, seen);
    }

    /** On an isle where cell n costs n, purses tells items of 0 to 9. */
    private static void rows(TideInches x, List<Integer> seen) {
        x.isle();
        Check.tell(x, READER);
        x.isle();
        for (int row = 0; row < 8; row++) {
            for (int i = 0; i < 40; i += i < 12 ? 1 : 9) {
                seen.add(x.purses(0, row, i, 1, 0));
            }
            seen.add(x.set(row, 0, 40000));
            seen.add(x.set(row, 0, 200));
            seen.add(x.drop(row));
        }
    }

    private static void rowsAndTape(TideInches x) {
        Check.row(x, 0, 3, 4, 4, 0, 5);
        x.row(1, 0, 3);
        x.set(1, 0, 7);
        x.set(1, 2, 9);
        x.row(2, 1, 40);
        x.set(2, 39, 8);
        x.row(6, 2, 0);
        x.feed('x');
        x.isle();
        Check.tell(x, REST.substring(0, BEGUN));
        x.set(0, 5, 0);
    }

    /** No isle; rows, a fault, a part of a tape, and PLACE of a row. */
    static TideInches bare() {
        TideInches x = new TideInches();
        rowsAndTape(x);
        return x;
    }

    /**
     * Hour 1, level 2, all kinds, all kinds of acts, two images, a trace, and what bare() has. Heights:
     * 0 2 3 2 0 / 3 6 9 6 1 / 0 4 8 4 2; the abbey (1) has cell 8, the seal (4) cell 9, the sleeper (2) cell 2.
     */
    static TideInches rich() {
        TideInches x = Check.isle(REST);
        x.bid(0, 8);
        x.image(0);
        x.bid(4, 9);
        x.raise(0, 8);
        x.bid(2, 2);
        x.hours(1);
        x.image(1);
        x.give(0, 1, 8);
        x.ask(1, 0);
        rowsAndTape(x);
        return x;
    }

    /** As rich(), in hour 999, level 4: the goat (3) has cell 7, of 9 inches, and 24 acts are kept. */
    static TideInches late() {
        TideInches x = Check.isle(REST);
        x.bid(3, 7);
        x.image(1);
        for (int i = 0; i < 41; i++) {
            x.hours(24);
        }
        x.hours(14);
        x.bid(1, 6);
        x.hours(1);
        x.ask(4, 1);
        rowsAndTape(x);
        for (int i = BEGUN; i < 100; i++) {
            x.feed('0');
        }
        return x;
    }

    /** An isle told by a text, with no act done. */
    static Supplier<TideInches> told(String text) {
        return () -> Check.isle(text);
    }
}
