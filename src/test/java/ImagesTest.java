/** Promises 26 and 27: images. */
public final class ImagesTest {
    private static final Check check = new Check();

    public static void main(String[] args) {
        refusals();
        keepsAll();
        twoImages();
        check.end();
    }

    private static void refusals() {
        SignDuty x = new SignDuty();
        for (int wild : Check.wild()) {
            check.due("image " + wild, x.image(wild), Check.BAD);
            check.due("restore " + wild, x.restore(wild), Check.BAD);
        }
        check.due("image 2", x.image(2), Check.BAD);
        check.due("restore 2", x.restore(2), Check.BAD);
        check.due("no CITY", x.image(1), Check.STATE);
        check.due("none kept", x.restore(1), Check.STATE);
        Check.feed(x, "d1;");
        x.city();
        check.due("an empty CITY is one", x.image(1), 1);
        check.due("none kept in 0", x.restore(0), Check.STATE);
        check.due("kept in 1", x.restore(1), 1);
    }

    private static void keepsAll() {
        SignDuty x = Check.cityOf(Check.TOWN);
        x.row(1, 0, 3);
        x.make(0, 0);
        x.make(1, 1);
        x.know(2, 1);
        x.dim(0, 5);
        x.train(4, 6);
        check.due("image", x.image(0), 1);
        check.due("ACTS stay by an image", x.count(6), 5);
        x.make(0, 0);
        x.know(2, 0);
        x.know(3, 1);
        x.dim(0, 9);
        x.train(4, 2);
        x.drop(1);
        Check.feed(x, "d9;r1,1;w1,1,1;");
        x.city();
        Check.feed(x, "d1");
        check.due("restore", x.restore(0), 1);
        check.due("RATE", x.count(4), 3);
        check.due("STREETS", x.count(1), 4);
        check.due("GESTURES", x.count(2), 6);
        check.due("PAID", x.count(3), 81);
        check.due("how often", x.gesture(0, 4), 1);
        check.due("DIM", x.street(0, 0), 5);
        check.due("STRICT", x.street(1, 1), 5);
        check.due("INCHES", x.gesture(4, 0), 9);
        check.due("MEANS", x.gesture(5, 1), 2);
        check.due("TAKES", x.gesture(5, 2), 1);
        check.due("KIND", x.kind(2), 3);
        check.due("KNOWN", x.street(2, 2), 1);
        check.due("not KNOWN", x.street(3, 2), 0);
        check.due("no ACT", x.count(6), 0);
        check.due("none to undo", x.undo(), Check.STATE);
        check.due("ROWS stay", x.count(0), 0);
        check.due("the tape stays", x.count(7), 2);
    }

    private static void twoImages() {
        SignDuty x = Check.cityOf(Check.TOWN);
        x.dim(0, 9);
        x.image(0);
        x.restore(0);
        check.due("no ACT after it", x.undo(), Check.STATE);
        x.dim(0, 0);
        x.image(0);
        x.dim(0, 7);
        x.image(1);
        x.restore(0);
        check.due("the first", x.street(0, 0), 0);
        x.dim(0, 3);
        x.restore(1);
        check.due("the second", x.street(0, 0), 7);
        x.restore(0);
        check.due("is not changed by acts", x.street(0, 0), 0);
        x.dim(0, 4);
        x.image(0);
        x.dim(0, 5);
        x.restore(0);
        check.due("kept anew", x.street(0, 0), 4);
    }
}
