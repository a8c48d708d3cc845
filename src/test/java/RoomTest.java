import java.lang.management.ManagementFactory;

/** All calls of one run live in one room: calls make nothing, and an object little. */
public final class RoomTest {
    private static final com.sun.management.ThreadMXBean THREADS =
        (com.sun.management.ThreadMXBean) ManagementFactory.getThreadMXBean();
    private static final Check C = new Check();

    public static void main(String[] args) {
        TideInches x = Check.isle("i1,7,2;hacdcadgjfbaeiec;b50,7;a20,6;z30,12;g9,8;l5,0;");
        for (int i = 0; i < 200; i++) {
            calls(x);
        }
        long before = made();
        for (int i = 0; i < 2000; i++) {
            calls(x);
        }
        C.due("more than 50 bytes by 2000 times 40 calls", made() - before > 100000 ? 1 : 0, 0);
        before = made();
        for (int i = 0; i < 100; i++) {
            new TideInches();
        }
        long each = (made() - before) / 100;
        C.due("an object of " + each + " bytes: over 16000", each > 16000 ? 1 : 0, 0);
        C.end();
    }

    private static long made() {
        return THREADS.getThreadAllocatedBytes(Thread.currentThread().getId());
    }

    private static void calls(TideInches x) {
        Check.tell(x, "i1,7,2;hacdcadgjfbaeiec;b50,7;a20,6;z30,12;g9,8;l5,0;");
        x.isle();
        x.row(0, 2, 24);
        x.row(1, 1, 40);
        x.set(0, 1, 3);
        x.copy(0, 0, 0, 1, 20);
        x.bid(0, 8);
        x.raise(0, 8);
        x.give(0, 1, 8);
        x.hours(24);
        x.undo();
        x.bidder(0, 2);
        x.cell(3, 1);
        x.price(1, 2);
        x.ahead(4, 2);
        x.stays(7);
        x.when(9, 1);
        x.cuts();
        x.home(2, 0);
        x.buy(0, 1);
        x.harvest(3, 4, 5);
        x.raised(0, 0, 12);
        x.who(0, 0, 12);
        x.ring(7, 0);
        x.purses(1, 0, 0, 12, 0);
        x.drawn(60, 123456, 1);
        x.image(0);
        x.restore(0);
        x.kind(2);
        x.as(2, 1);
        x.ask(1, 0);
        x.ask(4, 1);
        x.trace(0);
        x.count(5);
        x.drop(1);
        x.status();
    }
}
