/** Promises 29 and 30: images of the isle. */
public final class ImagesTest {
    private static final int BAD = -1000001, STATE = -1000002;
    private static final String ISLE = "i1,7,2;hacdcadgjfbaeiec;b50,7;a20,6;z30,12;g9,8;l5,0;";
    private static final Check C = new Check();

    public static void main(String[] args) {
        imagesAreRefused();
        imagesAreRestored();
        imagesStand();
        C.end();
    }

    private static void imagesAreRefused() {
        TideInches x = new TideInches();
        C.due("image -1", x.image(-1), BAD);
        C.due("image 2, BAD ahead of STATE", x.image(2), BAD);
        C.due("no isle", x.image(0), STATE);
        C.due("no isle", x.image(1), STATE);
        C.due("restore -1", x.restore(-1), BAD);
        C.due("restore 2", x.restore(2), BAD);
        C.due("none kept", x.restore(0), STATE);
        C.due("none kept", x.restore(1), STATE);
        TideInches y = Check.isle(ISLE);
        C.due("kept", y.image(1), 1);
        C.due("the other", y.restore(0), STATE);
        C.due("this", y.restore(1), 1);
    }

    private static void imagesAreRestored() {
        TideInches x = Check.isle(ISLE);
        x.bid(0, 8);
        x.raise(0, 8);
        x.hours(1);
        C.due("kept", x.image(0), 1);
        C.due("acts stay", x.count(6), 3);
        x.raise(0, 8);
        x.give(0, 1, 8);
        x.bid(1, 11);
        x.hours(5);
        C.due("restored", x.restore(0), 1);
        C.due("acts", x.count(6), 0);
        C.due("undo", x.undo(), STATE);
        C.due("hour", x.count(4), 1);
        C.due("held", x.count(5), 256);
        C.due("whose", x.cell(8, 1), 0);
        C.due("height", x.cell(8, 0), 6);
        C.due("purse", x.bidder(0, 0), 40);
        C.due("purse", x.bidder(1, 0), 20);
        x.hours(7);
        x.raise(0, 7);
        x.bid(0, 7);
        C.due("again", x.restore(0), 1);
        C.due("the image does not change", x.count(4), 1);
        C.due("the image does not change", x.bidder(0, 0), 40);
    }

    private static void imagesStand() {
        TideInches x = Check.isle(ISLE);
        x.bid(3, 7);
        x.image(0);
        Check.tell(x, "i2,9,5;hjjjjjjjjjjjjjjj;l1,4;");
        x.isle();
        x.image(1);
        C.due("restored", x.restore(0), 1);
        C.due("bidders", x.count(1), 5);
        C.due("price", x.count(3), 2);
        C.due("level", x.count(2), 1);
        C.due("high", x.ahead(6, 0), 7);
        C.due("kind", x.kind(3), 4);
        C.due("home", x.bidder(2, 1), 12);
        C.due("height", x.cell(1, 0), 2);
        C.due("held", x.bidder(3, 2), 128);
        C.due("the other", x.restore(1), 1);
        C.due("bidders", x.count(1), 1);
        C.due("kind", x.kind(0), 5);
        C.due("home", x.bidder(0, 1), 4);
        C.due("held", x.count(5), 0);
        C.due("the second bidder", x.kind(1), BAD);
        C.due("kept anew", x.image(0), 1);
        x.hours(3);
        x.restore(0);
        C.due("what was kept anew", x.count(1), 1);
    }
}
