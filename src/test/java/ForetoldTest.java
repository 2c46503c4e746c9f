/** Promises 17 to 25: what is foretold. */
public final class ForetoldTest {
    private static final Check check = new Check();

    public static void main(String[] args) {
        tells();
        firstOfSeveral();
        throughSevenStreets();
        anyGestureFirst();
        tellIsRefused();
        shuts();
        quicks();
        threads();
        threadIsRefused();
        inches();
        sorts();
        saves();
        worsts();
        trembles();
        trembleIsRefused();
        check.end();
    }

    private static void tells() {
        SignDuty x = Check.cityOf(Check.TOWN);
        dueRow(x, 0, 0, 3, 99, 81, 3, 3, 0, 3);
        dueRow(x, 0, 0, 3, 12, 136, 1, 1, 0, 1);
        dueRow(x, 0, 0, 3, 10, 136, 1, 1, 0, 1);
        dueRow(x, 0, 2, 2, 4, 78, 0);
        dueRow(x, 2, 0, 0, 1, 10, 5);
        check.due("too little time", x.tell(0, 0, 3, 9, -1), Check.NONE);
        check.due("k too", x.tell(0, 0, 3, 9, 0), Check.NONE);
        check.due("the fifth of four", x.tell(0, 0, 3, 99, 4), Check.NONE);
        check.due("the seventh", x.tell(0, 0, 3, 99, 6), Check.NONE);
        check.due("not SEEN in 1", x.tell(2, 0, 1, 99, -1), Check.NONE);
        check.due("nobody means it", x.tell(3, 0, 0, 99, -1), Check.NONE);
        check.due("in no time", x.tell(0, 0, 0, 0, -1), Check.NONE);
        x.know(2, 1);
        dueRow(x, 0, 0, 3, 99, 42, 3, 3, 0, 3);
        check.due("nothing changes", x.count(3), 0);
        check.due("nothing is made", x.gesture(3, 4), 0);
        check.due("no ACT more", x.count(6), 1);
    }

    /** Rows that are as cheap: the first by numbers, street by street, though a later one is quicker. */
    private static void firstOfSeveral() {
        SignDuty x = Check.cityOf("d1;r0,0;r0,0;r0,0;k1,0,9;k2,0,1;w2,0,1;n4,0,3;k9,0,5;");
        dueRow(x, 0, 0, 2, 99, 3, 0, 0, 0);
        dueRow(x, 0, 0, 2, 27, 3, 0, 0, 0);
        dueRow(x, 0, 0, 2, 26, 3, 0, 0, 1);
        dueRow(x, 0, 0, 2, 19, 3, 0, 0, 1);
        dueRow(x, 0, 0, 2, 18, 3, 0, 1, 1);
        dueRow(x, 0, 0, 2, 11, 3, 0, 1, 1);
        dueRow(x, 0, 0, 2, 10, 3, 1, 1, 1);
        dueRow(x, 0, 0, 2, 3, 3, 1, 1, 1);
        SignDuty y = Check.cityOf("d1;r0,0;r0,0;w9,0,1;w2,0,3;n4,0,3;");
        dueRow(y, 0, 0, 1, 6, 4, 1, 1);
        dueRow(y, 0, 0, 1, 5, 11, 0, 1);
        dueRow(y, 0, 0, 1, 3, 18, 0, 0);
    }

    private static void throughSevenStreets() {
        SignDuty x = Check.cityOf("d2;r0,0;r6,0;r0,0;r9,9;r0,0;r14,0;r0,0;w9,1,9;k1,1,9;k9,1,9;s3,1,1;");
        dueRow(x, 1, 0, 6, 63, 7, 1, 1, 1, 2, 1, 2, 1);
        dueRow(x, 1, 0, 6, 62, 7, 1, 1, 1, 2, 1, 2, 3);
        dueRow(x, 1, 0, 6, 23, 7, 3, 3, 3, 2, 3, 2, 3);
        check.due("in too little time", x.tell(1, 0, 6, 22, -1), Check.NONE);
    }

    /** The row may be asked for before its duty, and a street in which nothing is owed ends no row. */
    private static void anyGestureFirst() {
        SignDuty x = Check.cityOf(Check.TOWN);
        check.due("the third", x.tell(0, 0, 3, 12, 2), 0);
        SignDuty y = Check.cityOf("d1;r0,0;r0,0;r0,0;r0,0;k1,0,1;");
        for (int street = 0; street < 4; street++) {
            y.know(street, 1);
        }
        check.due("for nothing", y.tell(0, 0, 3, 9, -1), 0);
        check.due("the second of one", y.tell(0, 1, 1, 9, 1), Check.NONE);
        check.due("the second of two", y.tell(0, 1, 2, 9, 1), 0);
        check.due("the third of two", y.tell(0, 1, 2, 9, 2), Check.NONE);
    }

    private static void tellIsRefused() {
        SignDuty x = Check.cityOf(Check.TOWN);
        check.due("means 4", x.tell(4, 0, 0, 9, -1), Check.BAD);
        check.due("b below a", x.tell(0, 1, 0, 9, -1), Check.BAD);
        check.due("b 4", x.tell(0, 0, 4, 9, -1), Check.BAD);
        check.due("t 100", x.tell(0, 0, 0, 100, -1), Check.BAD);
        check.due("t -1", x.tell(0, 0, 0, -1, -1), Check.BAD);
        check.due("k -2", x.tell(0, 0, 0, 9, -2), Check.BAD);
        check.due("k 7", x.tell(0, 0, 0, 9, 7), Check.BAD);
        check.due("no CITY", new SignDuty().tell(0, 0, 0, 9, -1), Check.BAD);
        for (int wild : Check.wild()) {
            check.due("means " + wild, x.tell(wild, 0, 0, 9, -1), Check.BAD);
            check.due("a " + wild, x.tell(0, wild, 0, 9, -1), Check.BAD);
            check.due("b " + wild, x.tell(0, 0, wild, 9, -1), Check.BAD);
            check.due("t " + wild, x.tell(0, 0, 0, wild, -1), Check.BAD);
            check.due("k " + wild, x.tell(0, 0, 0, 9, wild), wild == -1 ? 1 : Check.BAD);
        }
    }

    private static void shuts() {
        SignDuty x = Check.cityOf(Check.TOWN);
        check.due("0", x.shut(0), 0);
        check.due("1", x.shut(1), 0);
        check.due("2", x.shut(2), 6);
        check.due("3", x.shut(3), 15);
        x.dim(1, 30);
        check.due("0 by night", x.shut(0), 2);
        check.due("4", x.shut(4), Check.BAD);
        for (int wild : Check.wild()) {
            check.due("shut " + wild, x.shut(wild), Check.BAD);
            check.due("no CITY " + wild, new SignDuty().shut(wild), Check.STATE);
        }
        check.due("no STREETS", Check.cityOf("d1;w1,0,1;").shut(1), 0);
    }

    private static void quicks() {
        SignDuty x = Check.cityOf(Check.TOWN);
        check.due("all", x.quick(0, 0, 3), 10);
        check.due("two", x.quick(0, 0, 1), 4);
        check.due("one", x.quick(1, 2, 2), 3);
        check.due("shut", x.quick(2, 0, 3), Check.NONE);
        check.due("open", x.quick(2, 3, 3), 1);
        check.due("means 4", x.quick(4, 0, 0), Check.BAD);
        check.due("b below a", x.quick(0, 1, 0), Check.BAD);
        check.due("b 4", x.quick(0, 0, 4), Check.BAD);
        for (int wild : Check.wild()) {
            check.due("means " + wild, x.quick(wild, 0, 0), Check.BAD);
            check.due("a " + wild, x.quick(0, wild, 0), Check.BAD);
            check.due("b " + wild, x.quick(0, 0, wild), Check.BAD);
        }
    }

    private static void threads() {
        SignDuty x = Check.cityOf(Check.TOWN);
        Check.lay(x, 0, 0, 60, 1, 70, 2, 78, 3, 11, 0, 1, 1, 12, 0, 10);
        check.due("wave", x.thread(0, 0, 1), 1);
        check.due("wave in 2", x.thread(0, 0, 2), 1);
        check.due("wave in 3", x.thread(0, 0, 3), 1);
        check.due("and no more", x.thread(0, 0, 4), 0);
        check.due("nod", x.thread(0, 6, 1), 32);
        check.due("wink, shrug", x.thread(0, 8, 1), 24);
        check.due("nod not SEEN", x.thread(0, 10, 1), 0);
        check.due("nod SEEN", x.thread(0, 12, 1), 32);
        Check.lay(x, 1, 3, 1, 3, 1, 3, 1, 3, 1, 3, 1, 3, 1, 3, 1, 3, 1, 3, 1, 3, 1, 3, 1, 3, 1);
        check.due("twelve times", x.thread(1, 0, 12), 24);
        x.know(3, 1);
        check.due("half", x.thread(1, 0, 12), 0);
        x.row(2, 2, 40);
        x.set(2, 39, 60);
        check.due("up to the end of a row", x.thread(2, 38, 1), 1);
        Check.lay(x, 3, 0, 10, 1, 12, 9, 9);
        check.due("what stands behind is not looked at", x.thread(3, 0, 1), 32);
        check.due("nor whether it is a STREET", x.thread(3, 2, 1), 0);
    }

    private static void threadIsRefused() {
        SignDuty x = new SignDuty();
        check.due("no CITY ahead of BAD", x.thread(9, 0, 0), Check.STATE);
        check.due("no GESTURE", x.inches(0, 9, 0, 0), Check.BAD);
        check.due("no GESTURE", x.sorts(0, 9, 0, 0), Check.BAD);
        Check.feed(x, Check.TOWN);
        x.city();
        Check.lay(x, 0, 0, 1, 4, 1, 0, -1, -1, 1);
        x.row(1, 2, 40);
        dueOfThreads(x, 0, 0, 0, Check.BAD, 0);
        dueOfThreads(x, 1, 0, 13, Check.BAD, 0);
        dueOfThreads(x, 8, 0, 1, Check.BAD, 0);
        dueOfThreads(x, 0, 7, 1, Check.PLACE, 2);
        dueOfThreads(x, 0, 0, 5, Check.PLACE, 2);
        dueOfThreads(x, 0, 8, 1, Check.PLACE, 2);
        dueOfThreads(x, 2, 99, 1, Check.NULL, 1);
        dueOfThreads(x, 0, 0, 2, Check.BAD, 1);
        dueOfThreads(x, 0, 4, 2, Check.BAD, 1);
        dueOfThreads(x, 0, 1, 3, Check.BAD, 1);
        for (int wild : Check.wild()) {
            dueOfThreads(x, wild, 0, 1, Check.BAD, 1);
            dueOfThreads(x, 1, 0, wild, Check.BAD, 1);
        }
        for (int wild : Check.wild()) {
            dueOfThreads(x, 1, wild, 12, Check.PLACE, 2);
            check.due("inches of " + wild, x.inches(wild, 0, 0, 1), Check.BAD);
            check.due("sorts of " + wild, x.sorts(wild, 0, 0, 1), Check.BAD);
        }
        check.due("inches of 6", x.inches(6, 2, 0, 1), Check.BAD);
        check.due("sorts of 6", x.sorts(6, 2, 0, 1), Check.BAD);
        check.due("the end of a row", x.thread(1, 38, 1), 0);
        check.due("status 0", x.status(), 0);
    }

    private static void inches() {
        SignDuty x = Check.cityOf(Check.TOWN);
        Check.lay(x, 0, 0, 60, 1, 70, 2, 78, 0, 1, 0, 3, 1, 24, 2, 117);
        check.due("wave", x.inches(0, 0, 0, 3), 1 << 19);
        check.due("nod of 40 is none", x.inches(1, 0, 0, 1), 0);
        check.due("bow of 15", x.inches(2, 0, 0, 1), 1 << 14);
        check.due("wink, all", x.inches(3, 0, 6, 1), (1 << 30) - 1);
        check.due("wave of 1", x.inches(0, 0, 8, 1), 1);
        check.due("nods of 2", x.inches(1, 0, 8, 1), 2);
        check.due("nod of 14", x.inches(5, 0, 10, 1), 1 << 13);
        check.due("wave of 30", x.inches(0, 0, 12, 1), 1 << 29);
        check.due("shrug as a wave", x.inches(4, 0, 2, 1), 1 << 19);
        x.know(0, 1);
        Check.lay(x, 1, 0, 1);
        check.due("SEEN or not", x.inches(5, 0, 10, 1), 1 << 13);
        check.due("half of a nod", x.inches(5, 1, 0, 1), 2);
        check.due("half of a wave", x.inches(0, 1, 0, 1), 1);
        check.due("status", x.status(), 0);
    }

    private static void sorts() {
        SignDuty x = Check.cityOf("d3;r30,5;r0,0;w10,0,1;n20,0,1;");
        Check.lay(x, 0, 0, 35, 1, 30, 0, 17, 1, 1, 0, 1, 1, 90, 0, 0);
        check.due("10 as WAVE, BOW, SHRUG", x.sorts(0, 0, 0, 1), 1 << 1 | 1 << 3 | 1 << 5);
        check.due("and in 1", x.sorts(0, 0, 0, 2), 1 << 1 | 1 << 3);
        check.due("as NOD", x.sorts(0, 0, 4, 1), 1 << 2);
        check.due("as WINK, SHRUG", x.sorts(0, 0, 6, 1), 1 << 4 | 1 << 5);
        check.due("as WINK", x.sorts(0, 0, 6, 2), 1 << 4);
        check.due("20 as NOD", x.sorts(1, 0, 0, 2), 1 << 2);
        check.due("20 as BOW", x.sorts(1, 0, 10, 1), 1 << 3);
        check.due("as none", x.sorts(1, 0, 12, 1), 0);
        x.know(0, 1);
        check.due("a known WINK", x.sorts(0, 0, 12, 1), 1 << 4);
        check.due("status", x.status(), 0);
    }

    private static void saves() {
        SignDuty x = Check.cityOf(Check.TOWN);
        int[] due = {137, 42, 327, 4, 57, 24};
        for (int gesture = 0; gesture < 6; gesture++) {
            check.due("saved " + gesture, x.saved(gesture), due[gesture]);
        }
        x.know(2, 1);
        check.due("known in one already", x.saved(0), 98);
        check.due("wink", x.saved(3), 3);
        check.due("no STREETS", Check.cityOf("d1;w9,0,1;").saved(0), 0);
        check.due("gesture 6", x.saved(6), Check.BAD);
        for (int wild : Check.wild()) {
            check.due("gesture " + wild, x.saved(wild), Check.BAD);
        }
    }

    private static void worsts() {
        SignDuty x = Check.cityOf(Check.TOWN);
        int[] due = {2, 78, 2, 23, 2, 177, 0, 1, 2, 58, 2, 13};
        for (int gesture = 0; gesture < 6; gesture++) {
            check.due("which " + gesture, x.worst(gesture, 0), due[2 * gesture]);
            check.due("how much " + gesture, x.worst(gesture, 1), due[2 * gesture + 1]);
        }
        x.know(2, 1);
        check.due("which then", x.worst(0, 0), 1);
        check.due("how much then", x.worst(0, 1), 70);
        check.due("what 2", x.worst(0, 2), Check.BAD);
        check.due("what -1", x.worst(0, -1), Check.BAD);
        check.due("gesture 6", x.worst(6, 0), Check.BAD);
        for (int wild : Check.wild()) {
            check.due("gesture " + wild, x.worst(wild, 0), Check.BAD);
            check.due("what " + wild, x.worst(0, wild), Check.BAD);
        }
        SignDuty y = Check.cityOf("d1;w9,0,1;");
        check.due("no STREETS", y.worst(0, 0), Check.NONE);
        check.due("no STREETS", y.worst(0, 1), Check.NONE);
        check.due("BAD ahead of NONE", y.worst(0, 2), Check.BAD);
    }

    private static void trembles() {
        SignDuty x = Check.cityOf("d1;r0,0;r30,0;r0,0;r0,0;r0,0;r0,0;r0,0;w5,0,1;k1,0,1;b10,0,1;w30,0,1;");
        dueFraction(x, 0, 0, 0, 5, 3, 7, 10);
        dueFraction(x, 0, 0, 0, 4, 3, 0, 1);
        dueFraction(x, 0, 0, 0, 6, 3, 1, 1);
        dueFraction(x, 0, 0, 1, 11, 3, 91, 100);
        dueFraction(x, 0, 0, 1, 10, 5, 1, 4);
        dueFraction(x, 0, 0, 6, 35, 1, 4782969, 10000000);
        dueFraction(x, 0, 0, 6, 41, 1, 9999999, 10000000);
        dueFraction(x, 0, 0, 6, 42, 1, 1, 1);
        dueFraction(x, 0, 0, 6, 38, 5, 1, 2);
        dueFraction(x, 0, 0, 6, 35, 0, 1, 1);
        dueFraction(x, 0, 0, 6, 34, 0, 0, 1);
        dueFraction(x, 0, 0, 6, 42, 10, 1, 1);
        dueFraction(x, 0, 0, 6, 41, 10, 0, 1);
        dueFraction(x, 1, 0, 6, 7, 5, 1, 1);
        dueFraction(x, 1, 0, 6, 6, 5, 0, 1);
        dueFraction(x, 2, 0, 0, 11, 4, 3, 5);
        dueFraction(x, 2, 0, 0, 12, 4, 1, 1);
        dueFraction(x, 3, 0, 0, 30, 4, 3, 5);
        dueFraction(x, 3, 0, 0, 31, 4, 1, 1);
        dueFraction(x, 0, 0, 6, 0, 5, 0, 1);
        dueFraction(x, 0, 0, 6, 9999, 5, 1, 1);
        x.know(0, 1);
        dueFraction(x, 0, 0, 0, 2, 3, 7, 10);
        check.due("nothing is made", x.gesture(0, 4), 0);
        check.due("INCHES stay", x.gesture(0, 0), 5);
    }

    private static void trembleIsRefused() {
        SignDuty x = Check.cityOf(Check.TOWN);
        check.due("b below a", x.tremble(0, 1, 0, 0, 0, 0), Check.BAD);
        check.due("b 4", x.tremble(0, 0, 4, 0, 0, 0), Check.BAD);
        check.due("gesture 6", x.tremble(6, 0, 0, 0, 0, 0), Check.BAD);
        check.due("v 10000", x.tremble(0, 0, 0, 10000, 0, 0), Check.BAD);
        check.due("v -1", x.tremble(0, 0, 0, -1, 0, 0), Check.BAD);
        check.due("c 11", x.tremble(0, 0, 0, 0, 11, 0), Check.BAD);
        check.due("c -1", x.tremble(0, 0, 0, 0, -1, 0), Check.BAD);
        check.due("what 2", x.tremble(0, 0, 0, 0, 0, 2), Check.BAD);
        check.due("what -1", x.tremble(0, 0, 0, 0, 0, -1), Check.BAD);
        for (int wild : Check.wild()) {
            check.due("gesture " + wild, x.tremble(wild, 0, 0, 0, 0, 0), Check.BAD);
            check.due("a " + wild, x.tremble(0, wild, 0, 0, 0, 0), Check.BAD);
            check.due("b " + wild, x.tremble(0, 0, wild, 0, 0, 0), Check.BAD);
            check.due("v " + wild, x.tremble(0, 0, 0, wild, 0, 0), Check.BAD);
            check.due("c " + wild, x.tremble(0, 0, 0, 0, wild, 0), Check.BAD);
            check.due("what " + wild, x.tremble(0, 0, 0, 0, 0, wild), Check.BAD);
        }
    }

    private static void dueRow(SignDuty x, int means, int a, int b, int t, int duty, int... gestures) {
        String call = "tell " + means + " " + a + " " + b + " " + t + " ";
        check.due(call + "-1", x.tell(means, a, b, t, -1), duty);
        for (int k = 0; k < gestures.length; k++) {
            check.due(call + k, x.tell(means, a, b, t, k), gestures[k]);
        }
        int behind = gestures.length > 6 ? Check.BAD : Check.NONE;
        check.due(call + gestures.length, x.tell(means, a, b, t, gestures.length), behind);
    }

    private static void dueOfThreads(SignDuty x, int row, int i, int n, int want, int status) {
        String call = row + " " + i + " " + n;
        check.due("thread " + call, x.thread(row, i, n), want);
        check.due("status of it", x.status(), status);
        check.due("inches " + call, x.inches(0, row, i, n), want);
        check.due("status of it", x.status(), status);
        check.due("sorts " + call, x.sorts(0, row, i, n), want);
        check.due("status of it", x.status(), status);
    }

    private static void dueFraction(SignDuty x, int gesture, int a, int b, int v, int c, int above, int below) {
        String call = "tremble " + gesture + " " + a + " " + b + " " + v + " " + c;
        check.due(call + " above", x.tremble(gesture, a, b, v, c, 0), above);
        check.due(call + " below", x.tremble(gesture, a, b, v, c, 1), below);
    }
}
