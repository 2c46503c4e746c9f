/** Section 2 of the document, ACTS at their bounds: promises 9 to 13. */
public final class ActEdgesTest {
    private static final Check check = new Check();

    public static void main(String[] args) {
        argumentsOfActs();
        refusalsInOrder();
        purseToTheLast();
        purseByUndo();
        knownPaysHalf();
        dimOfEveryValue();
        inchesToTheLast();
        knownAndNotAnyMore();
        actsByWhichNothingBecomesAnother();
        eachActIsUndone();
        twentyFourAreKept();
        oldestIsForgottenWhateverItIs();
        undoneThenDoneAgain();
        refusedIsNoAct();
        undoneInAnotherState();
        check.end();
    }

    private static void argumentsOfActs() {
        SignDuty x = Check.cityOf("d1;" + "r0,0;".repeat(7) + "w30,0,1;".repeat(6));
        check.bounds("make of", 0, 5, gesture -> x.make(gesture, 0));
        check.bounds("make in", 0, 6, street -> x.make(0, street));
        check.bounds("dim of", 0, 6, street -> x.dim(street, 1));
        check.bounds("dim to", 0, 30, v -> x.dim(0, v));
        check.bounds("train of", 0, 5, gesture -> x.train(gesture, 1));
        check.bounds("train by", 1, 29, n -> x.train(5, n));
        check.bounds("know of", 0, 6, street -> x.know(street, 1));
        check.bounds("know is", 0, 1, is -> x.know(0, is));
        SignDuty y = Check.cityOf("d1;r0,0;r0,0;w30,0,1;w30,0,1;");
        check.bounds("make of two", 0, 1, gesture -> y.make(gesture, 0));
        check.bounds("make in two", 0, 1, street -> y.make(0, street));
        check.bounds("dim of two", 0, 1, street -> y.dim(street, 1));
        check.bounds("train of two", 0, 1, gesture -> y.train(gesture, 1));
        check.bounds("know of two", 0, 1, street -> y.know(street, 1));
    }

    /** BAD, STATE, FULL: "the first of these that fits". */
    private static void refusalsInOrder() {
        SignDuty x = Check.cityOf("d9;r30,9;r0,9;w29,0,1;b30,0,1;");
        for (int i = 0; i < 209; i++) {
            x.make(1, 1);
        }
        check.due("BAD gesture ahead of STATE", x.make(2, 0), Check.BAD);
        check.due("BAD street ahead of FULL", x.make(1, 2), Check.BAD);
        check.due("STATE ahead of FULL", x.make(0, 0), Check.STATE);
        check.due("SEEN and FULL", x.make(1, 0), Check.FULL);
        check.due("BAD n ahead of STATE", x.train(0, 30), Check.BAD);
        check.due("STATE", x.train(0, 29), Check.STATE);
        check.due("BAD ahead of STATE: so it is", x.know(2, 0), Check.BAD);
        check.due("STATE", x.know(1, 0), Check.STATE);
    }

    /** "FULL: PAID would be above 99999": 99999 may be paid, not one more. */
    private static void purseToTheLast() {
        for (int nines = 0; nines <= 4; nines++) {
            SignDuty x = paid99693();
            check.due("a wave", x.make(1, 1), 99963);
            for (int i = 1; i <= nines; i++) {
                check.due("a small one", x.make(2, 1), 99963 + 9 * i);
            }
            int left = 36 - 9 * nines;
            for (int i = 0; i < left; i++) {
                check.due("a wink", x.make(3, 1), 99999 - left + i + 1);
            }
            check.due("all is paid", x.count(3), 99999);
            check.due("one more", x.make(3, 1), Check.FULL);
            check.due("nine more", x.make(2, 1), Check.FULL);
            check.due("all stays", x.count(3), 99999);
            check.due("made as often", x.gesture(3, 4), left);
        }
        SignDuty y = paid99693();
        y.make(1, 1);
        y.make(2, 1);
        y.make(2, 1);
        y.make(2, 1);
        check.due("99990", y.make(3, 1) - 1, 99990);
        check.due("99991 and 9", y.make(2, 1), Check.FULL);
        y.undo();
        check.due("99990 and 9", y.make(2, 1), 99999);
    }

    /** A bow of 477, a wave of 270, one of 9, a wink. */
    private static SignDuty paid99693() {
        SignDuty x = Check.cityOf("d9;r0,9;r0,0;b30,0,1;w30,0,1;w1,0,1;k1,0,1;");
        for (int i = 0; i < 209; i++) {
            x.make(0, 0);
        }
        check.due("PAID", x.count(3), 99693);
        return x;
    }

    private static void purseByUndo() {
        SignDuty x = paid99693();
        check.due("FULL", x.make(0, 0), Check.FULL);
        check.due("24 can be undone", x.undo(), 23);
        check.due("one less PAID", x.count(3), 99216);
        check.due("again", x.make(0, 0), 99693);
        check.due("how often", x.gesture(0, 4), 209);
    }

    private static void knownPaysHalf() {
        SignDuty x = paid99693();
        x.know(0, 1);
        check.due("half of 477", x.make(0, 0), 99931);
        check.due("no half more", x.make(0, 0), Check.FULL);
        x.know(1, 1);
        check.due("half of 9", x.make(2, 1), 99935);
        check.due("half of 1", x.make(3, 1), 99935);
    }

    /** "DIM (0 to 30): what it was". */
    private static void dimOfEveryValue() {
        SignDuty x = Check.cityOf("d1;r30,0;r7,0;w1,0,1;");
        int was = 30;
        for (int v = 0; v <= 30; v++) {
            check.due("DIM was", x.dim(0, v), was);
            check.due("DIM is", x.street(0, 0), v);
            check.due("the other stays", x.street(1, 0), 7);
            was = v;
        }
    }

    /** "STATE: fewer than 1 would be left": INCHES of 1 to 30, each by 1 to 29. */
    private static void inchesToTheLast() {
        for (int inches = 1; inches <= 30; inches++) {
            for (int n : new int[] {1, inches - 2, inches - 1, inches, inches + 1, 29}) {
                SignDuty x = Check.cityOf("d1;w30,0,1;n" + inches + ",0,1;");
                int due = n < 1 || n > 29 ? Check.BAD : n >= inches ? Check.STATE : inches - n;
                check.due(inches + " less " + n, x.train(1, n), due);
                check.due("INCHES then", x.gesture(1, 0), due > 0 ? due : inches);
                check.due("the other stays", x.gesture(0, 0), 30);
                check.due("ACTS then", x.count(6), due > 0 ? 1 : 0);
            }
        }
    }

    /** "One is KNOWN in a STREET (1), or not any more (0): STREETS (bits); STATE: it is so". */
    private static void knownAndNotAnyMore() {
        SignDuty x = Check.cityOf("d1;" + "r0,0;".repeat(7));
        int bits = 0;
        for (int street = 6; street >= 0; street--) {
            check.due("not so yet", x.know(street, 0), Check.STATE);
            bits |= 1 << street;
            check.due("KNOWN", x.know(street, 1), bits);
            check.due("it is so", x.know(street, 1), Check.STATE);
            check.due("told so", x.street(street, 2), 1);
            check.due("in so many", x.count(5), 7 - street);
        }
        for (int street = 0; street < 7; street++) {
            bits &= ~(1 << street);
            check.due("not any more", x.know(street, 0), bits);
            check.due("it is not", x.know(street, 0), Check.STATE);
            check.due("told not", x.street(street, 2), 0);
            check.due("in so many", x.count(5), 6 - street);
        }
    }

    /** "also such by which nothing becomes another": a DIM that it has, a GESTURE that owes nothing. */
    private static void actsByWhichNothingBecomesAnother() {
        SignDuty x = Check.cityOf("d1;r4,0;k5,0,1;");
        check.due("DIM as it is", x.dim(0, 4), 4);
        check.due("an ACT", x.count(6), 1);
        x.know(0, 1);
        check.due("for nothing", x.make(0, 0), 0);
        check.due("an ACT", x.count(6), 3);
        check.due("undone", x.undo(), 2);
        check.due("never made", x.gesture(0, 4), 0);
        check.due("undone", x.undo(), 1);
        check.due("not KNOWN", x.street(0, 2), 0);
        check.due("undone", x.undo(), 0);
        check.due("DIM", x.street(0, 0), 4);
        check.due("none", x.undo(), Check.STATE);
    }

    private static void eachActIsUndone() {
        SignDuty x = Check.cityOf("d1;r4,0;r5,5;w5,0,1;k5,0,1;");
        for (int round = 0; round < 3; round++) {
            x.make(0, 1);
            check.due("MADE undone", x.undo(), 0);
            check.due("PAID", x.count(3), 0);
            check.due("how often", x.gesture(0, 4), 0);
            x.dim(1, 30);
            check.due("DIM undone", x.undo(), 0);
            check.due("DIM", x.street(1, 0), 5);
            x.train(1, 4);
            check.due("TRAINED undone", x.undo(), 0);
            check.due("INCHES", x.gesture(1, 0), 5);
            x.know(1, 1);
            check.due("KNOWN undone", x.undo(), 0);
            check.due("not KNOWN", x.count(5), 0);
            check.due("no more", x.undo(), Check.STATE);
        }
        x.know(1, 1);
        x.know(1, 0);
        check.due("not any more undone", x.undo(), 1);
        check.due("KNOWN in 1", x.street(1, 2), 1);
        check.due("not in 0", x.street(0, 2), 0);
    }

    /** "24 at most are kept, of more the oldest is forgotten; the latest first": after 23, 24, 25 and many more. */
    private static void twentyFourAreKept() {
        for (int acts : new int[] {1, 22, 23, 24, 25, 26, 47, 48, 49, 72, 73, 100}) {
            SignDuty x = Check.cityOf("d1;r0,0;w1,0,1;");
            for (int n = 1; n <= acts; n++) {
                check.due("act " + n, x.make(0, 0), n);
                check.due("kept of " + n, x.count(6), Math.min(24, n));
            }
            int kept = Math.min(24, acts);
            for (int left = kept - 1; left >= 0; left--) {
                check.due("undone of " + acts, x.undo(), left);
                check.due("yet to undo", x.count(6), left);
                check.due("PAID", x.count(3), acts - kept + left);
            }
            check.due("none", x.undo(), Check.STATE);
            check.due("what is forgotten stays", x.gesture(0, 4), acts - kept);
        }
    }

    /** Each sort of ACT once as the oldest of 25. */
    private static void oldestIsForgottenWhateverItIs() {
        for (int sort = 0; sort < 4; sort++) {
            for (int more = 23; more <= 24; more++) {
                SignDuty x = Check.cityOf("d1;r3,0;r0,0;w9,0,1;");
                check.due("done", doOne(x, sort) == Check.BAD ? 1 : 0, 0);
                for (int n = 0; n < more; n++) {
                    x.dim(1, n);
                }
                check.due("kept", x.count(6), 24);
                for (int left = 23; left >= 0; left--) {
                    check.due("undone", x.undo(), left);
                }
                check.due("none", x.undo(), Check.STATE);
                boolean isForgotten = more == 24;
                check.due("PAID", x.count(3), isForgotten && sort == 0 ? 9 : 0);
                check.due("DIM", x.street(0, 0), isForgotten && sort == 1 ? 8 : 3);
                check.due("INCHES", x.gesture(0, 0), isForgotten && sort == 2 ? 4 : 9);
                check.due("KNOWN", x.count(5), isForgotten && sort == 3 ? 1 : 0);
                check.due("DIM of the other", x.street(1, 0), 0);
            }
        }
    }

    private static int doOne(SignDuty x, int sort) {
        switch (sort) {
            case 0: return x.make(0, 0);
            case 1: return x.dim(0, 8);
            case 2: return x.train(0, 5);
            default: return x.know(0, 1);
        }
    }

    /** What is undone makes room for as many ACTS, and is no ACT itself. */
    private static void undoneThenDoneAgain() {
        SignDuty x = Check.cityOf("d1;r0,0;w1,0,1;");
        for (int v = 1; v <= 30; v++) {
            x.dim(0, v);
        }
        for (int left = 23; left >= 20; left--) {
            check.due("undone", x.undo(), left);
        }
        check.due("DIM 26", x.street(0, 0), 26);
        for (int v = 1; v <= 4; v++) {
            x.dim(0, v);
            check.due("kept", x.count(6), 20 + v);
        }
        x.dim(0, 5);
        check.due("24 again", x.count(6), 24);
        int[] due = {4, 3, 2, 1, 26, 25, 24, 23, 22, 21, 20, 19, 18, 17, 16, 15, 14, 13, 12, 11, 10, 9, 8, 7};
        for (int k = 0; k < due.length; k++) {
            check.due("undone", x.undo(), 23 - k);
            check.due("DIM", x.street(0, 0), due[k]);
        }
        check.due("none", x.undo(), Check.STATE);
    }

    private static void refusedIsNoAct() {
        SignDuty x = Check.cityOf("d1;r9,0;w1,0,1;");
        x.make(0, 0);
        x.make(1, 0);
        x.dim(0, 31);
        x.dim(1, 0);
        x.train(0, 1);
        x.train(0, 0);
        x.know(0, 0);
        x.know(0, 2);
        x.undo();
        check.due("no ACT", x.count(6), 0);
        check.due("none to undo", x.undo(), Check.STATE);
    }

    /** What a GESTURE owed when it was MADE is given back, though it owes another sum ahead of and behind it. */
    private static void undoneInAnotherState() {
        SignDuty x = Check.cityOf("d9;r0,9;w30,0,1;b20,0,1;");
        check.due("a wave", x.make(0, 0), 297);
        check.due("TRAINED", x.train(0, 20), 10);
        check.due("a shorter one", x.make(0, 0), 297 + 99);
        check.due("KNOWN", x.know(0, 1), 1);
        check.due("half", x.make(0, 0), 297 + 99 + 49);
        check.due("a bow", x.make(1, 0), 297 + 99 + 49 + 144);
        check.due("undone", x.undo(), 5);
        check.due("PAID", x.count(3), 297 + 99 + 49);
        check.due("a bow less", x.gesture(1, 4), 0);
        check.due("undone", x.undo(), 4);
        check.due("PAID", x.count(3), 297 + 99);
        check.due("two waves", x.gesture(0, 4), 2);
        check.due("undone", x.undo(), 3);
        check.due("undone", x.undo(), 2);
        check.due("PAID", x.count(3), 297);
        check.due("undone", x.undo(), 1);
        check.due("INCHES", x.gesture(0, 0), 30);
        check.due("undone", x.undo(), 0);
        check.due("PAID nothing", x.count(3), 0);
    }
}
