/** Promises 9 to 13: acts, and how they are undone. */
public final class ActsTest {
    private static final Check check = new Check();

    public static void main(String[] args) {
        makes();
        purseIsFull();
        dims();
        trains();
        knows();
        undoes();
        actsAreForgotten();
        check.end();
    }

    private static void makes() {
        SignDuty x = Check.cityOf(Check.TOWN);
        check.due("wave", x.make(0, 0), 60);
        check.due("nod", x.make(1, 1), 81);
        check.due("how often", x.gesture(0, 4), 1);
        check.due("again", x.make(0, 0), 141);
        check.due("twice", x.gesture(0, 4), 2);
        check.due("not SEEN", x.make(5, 1), Check.STATE);
        check.due("wink not SEEN", x.make(3, 2), Check.STATE);
        check.due("STATE is no ACT", x.count(6), 3);
        check.due("wink SEEN by 5 more", x.make(3, 1), 142);
        check.due("gesture 6", x.make(6, 0), Check.BAD);
        check.due("street 4", x.make(0, 4), Check.BAD);
        for (int wild : Check.wild()) {
            check.due("gesture " + wild, x.make(wild, 0), Check.BAD);
            check.due("street " + wild, x.make(0, wild), Check.BAD);
        }
        check.due("PAID", x.count(3), 142);
        x.know(1, 1);
        check.due("half", x.make(0, 1), 177);
        check.due("a known wink", x.make(3, 1), 177);
        check.due("is an ACT", x.count(6), 7);
    }

    private static void purseIsFull() {
        SignDuty x = Check.cityOf("d9;r0,9;r0,0;b30,0,1;w1,0,1;k1,0,1;w6,0,1;");
        for (int i = 1; i <= 209; i++) {
            check.due("bow " + i, x.make(0, 0), 477 * i);
        }
        check.due("too much", x.make(0, 0), Check.FULL);
        check.due("PAID stays", x.count(3), 99693);
        check.due("how often", x.gesture(0, 4), 209);
        for (int i = 1; i <= 34; i++) {
            check.due("wave " + i, x.make(1, 1), 99693 + 9 * i);
        }
        check.due("9 more is just enough no more", x.make(1, 1), Check.FULL);
        x.undo();
        check.due("two winks", x.make(2, 1), 99991);
        x.make(2, 1);
        x.make(2, 1);
        x.make(2, 1);
        x.make(2, 1);
        x.make(2, 1);
        x.make(2, 1);
        x.make(2, 1);
        check.due("just 99999", x.make(2, 1), 99999);
        check.due("one more", x.make(2, 1), Check.FULL);
        x.know(1, 1);
        check.due("nothing more", x.make(2, 1), 99999);
    }

    private static void dims() {
        SignDuty x = Check.cityOf(Check.TOWN);
        check.due("DIM was", x.dim(1, 30), 12);
        check.due("DIM is", x.street(1, 0), 30);
        check.due("by it is SEEN", x.street(1, 3), 4);
        check.due("DIM 0", x.dim(1, 0), 30);
        check.due("the same", x.dim(1, 0), 0);
        check.due("is an ACT, too", x.count(6), 3);
        check.due("31", x.dim(1, 31), Check.BAD);
        check.due("-1", x.dim(1, -1), Check.BAD);
        check.due("street 4", x.dim(4, 1), Check.BAD);
        for (int wild : Check.wild()) {
            check.due("street " + wild, x.dim(wild, 1), Check.BAD);
            check.due("v " + wild, x.dim(0, wild), Check.BAD);
        }
        check.due("BAD is no ACT", x.count(6), 3);
    }

    private static void trains() {
        SignDuty x = Check.cityOf(Check.TOWN);
        check.due("bow by 29", x.train(2, 29), 1);
        check.due("no more", x.train(2, 1), Check.STATE);
        check.due("wave by 1", x.train(0, 1), 19);
        check.due("INCHES", x.gesture(0, 0), 19);
        check.due("by 19", x.train(0, 19), Check.STATE);
        check.due("by 29", x.train(0, 29), Check.STATE);
        check.due("by 30", x.train(0, 30), Check.BAD);
        check.due("by 0", x.train(0, 0), Check.BAD);
        check.due("by 18", x.train(0, 18), 1);
        check.due("gesture 6", x.train(6, 1), Check.BAD);
        for (int wild : Check.wild()) {
            check.due("gesture " + wild, x.train(wild, 1), Check.BAD);
            check.due("n " + wild, x.train(1, wild), Check.BAD);
        }
        check.due("ACTS", x.count(6), 3);
        check.due("duty is smaller", x.duty(0, 1), 3);
    }

    private static void knows() {
        SignDuty x = Check.cityOf(Check.TOWN);
        check.due("not known yet", x.know(0, 0), Check.STATE);
        check.due("known in 2", x.know(2, 1), 4);
        check.due("known in 0", x.know(0, 1), 5);
        check.due("so already", x.know(0, 1), Check.STATE);
        check.due("how many", x.count(5), 2);
        check.due("not in 2", x.know(2, 0), 1);
        check.due("is 2", x.know(3, 2), Check.BAD);
        check.due("is -1", x.know(3, -1), Check.BAD);
        check.due("street 4", x.know(4, 1), Check.BAD);
        for (int wild : Check.wild()) {
            check.due("street " + wild, x.know(wild, 1), Check.BAD);
            check.due("is " + wild, x.know(0, wild), Check.BAD);
        }
        check.due("ACTS", x.count(6), 3);
    }

    private static void undoes() {
        SignDuty x = Check.cityOf(Check.TOWN);
        x.make(0, 1);
        x.know(1, 1);
        x.make(0, 1);
        x.train(0, 5);
        x.dim(1, 20);
        x.know(1, 0);
        check.due("PAID", x.count(3), 105);
        check.due("undo know 0", x.undo(), 5);
        check.due("known again", x.street(1, 2), 1);
        check.due("undo dim", x.undo(), 4);
        check.due("DIM", x.street(1, 0), 12);
        check.due("undo train", x.undo(), 3);
        check.due("INCHES", x.gesture(0, 0), 20);
        check.due("undo make", x.undo(), 2);
        check.due("PAID less what was owed then", x.count(3), 70);
        check.due("how often", x.gesture(0, 4), 1);
        check.due("undo know 1", x.undo(), 1);
        check.due("not known", x.count(5), 0);
        check.due("undo make", x.undo(), 0);
        check.due("PAID 0", x.count(3), 0);
        check.due("never made", x.gesture(0, 4), 0);
        check.due("none", x.undo(), Check.STATE);
    }

    private static void actsAreForgotten() {
        SignDuty x = Check.cityOf(Check.TOWN);
        for (int v = 1; v <= 30; v++) {
            check.due("dim " + v, x.dim(0, v), v - 1);
            check.due("kept of " + v, x.count(6), Math.min(v, 24));
        }
        for (int left = 23; left >= 0; left--) {
            check.due("undo to " + left, x.undo(), left);
            check.due("DIM at " + left, x.street(0, 0), 6 + left);
        }
        check.due("no more", x.undo(), Check.STATE);
        check.due("DIM stays", x.street(0, 0), 6);
        check.due("another act", x.know(0, 1), 1);
        check.due("undone", x.undo(), 0);
    }
}
