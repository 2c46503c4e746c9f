/** Section 3 of the document, THREAD, LONG and SORTS at their bounds: promises 20 to 22. */
public final class ThreadEdgesTest {
    /** By zeros: a GESTURE of 1 inch at RATE 1 owes nothing as a NOD. */
    private static final int NOD_FOR_NOTHING = 1 << 2;

    private static final Check check = new Check();

    public static void main(String[] args) {
        arguments();
        oneToTwelvePairs();
        twelfthPairCounts();
        placesOfPairs();
        refusalsInOrder();
        itemsThatAreStreets();
        itemsThatAreDuties();
        lanes();
        threadIsOfWhatIsSeen();
        longIsOfOneToThirty();
        longIsOfTheKind();
        sortsAreOneToFive();
        sortsAtBounds();
        severalPairs();
        noGestures();
        statusOfThreads();
        check.end();
    }

    /** A city of seven streets, and a row of 40 zeros. */
    private static SignDuty seven() {
        SignDuty x = Check.cityOf("d1;" + "r0,0;".repeat(7) + "w1,0,1;n2,0,1;k3,0,1;");
        x.row(0, 2, 40);
        return x;
    }

    private static void arguments() {
        SignDuty x = seven();
        for (int row = 1; row < 8; row++) {
            x.row(row, 2, 2);
        }
        check.bounds("thread row", 0, 7, row -> x.thread(row, 0, 1));
        check.bounds("thread n", 1, 12, n -> x.thread(0, 0, n));
        check.bounds("inches of", 0, 2, gesture -> x.inches(gesture, 0, 0, 1));
        check.bounds("inches row", 0, 7, row -> x.inches(0, row, 0, 1));
        check.bounds("inches n", 1, 12, n -> x.inches(0, 0, 0, n));
        check.bounds("sorts of", 0, 2, gesture -> x.sorts(gesture, 0, 0, 1));
        check.bounds("sorts row", 0, 7, row -> x.sorts(0, row, 0, 1));
        check.bounds("sorts n", 1, 12, n -> x.sorts(0, 0, 0, n));
    }

    /** "n times (1 to 12)": the least and the most, and one beyond. */
    private static void oneToTwelvePairs() {
        SignDuty x = seven();
        for (int i = 1; i < 40; i += 2) {
            x.set(0, i, 1);
        }
        for (int n = -1; n <= 14; n++) {
            boolean fits = n >= 1 && n <= 12;
            check.due("thread of " + n, x.thread(0, 0, n), fits ? 7 : Check.BAD);
            check.due("inches of " + n, x.inches(0, 0, 0, n), fits ? 1 : Check.BAD);
            check.due("sorts of " + n, x.sorts(0, 0, 0, n), fits ? 1 << 1 | 1 << 3 | 1 << 4 | 1 << 5 : Check.BAD);
        }
    }

    /** Each of the pairs counts, the last one, too, and none behind it. */
    private static void twelfthPairCounts() {
        for (int n = 1; n <= 12; n++) {
            for (int pair = 0; pair <= 12; pair++) {
                SignDuty x = seven();
                for (int i = 1; i < 40; i += 2) {
                    x.set(0, i, 1);
                }
                x.set(0, 2 * pair + 1, 9);
                check.due("thread", x.thread(0, 0, n), pair < n ? 0 : 7);
                check.due("inches", x.inches(0, 0, 0, n), pair < n ? n == 1 ? 1 << 8 : 0 : 1);
                x.set(0, 2 * pair, 7);
                check.due("no STREET", x.thread(0, 0, n), pair < n ? Check.BAD : 7);
                check.due("no STREET", x.inches(0, 0, 0, n), pair < n ? Check.BAD : 1);
                check.due("no STREET", x.sorts(1, 0, 0, n), pair < n ? Check.BAD : 1 << 2 | 1 << 4 | 1 << 5);
            }
        }
    }

    /** "by 2 n ITEMS of a ROW from i on": PLACE. */
    private static void placesOfPairs() {
        for (int length : new int[] {0, 1, 2, 3, 4, 23, 24, 25, 40}) {
            SignDuty x = seven();
            x.row(0, 2, length);
            for (int n : new int[] {1, 2, 12}) {
                for (int i : new int[] {-1, 0, 1, length - 2 * n, length - 2 * n + 1, length, Integer.MIN_VALUE, Integer.MAX_VALUE}) {
                    boolean fits = i >= 0 && i <= length - 2 * n;
                    check.due("thread " + i + " " + n + " of " + length, x.thread(0, i, n), fits ? 0 : Check.PLACE);
                    check.due("status of it", x.status(), fits ? 0 : 2);
                    check.due("inches " + i + " " + n + " of " + length, x.inches(0, 0, i, n), fits ? 0 : Check.PLACE);
                    check.due("sorts " + i + " " + n + " of " + length, x.sorts(0, 0, i, n), fits ? NOD_FOR_NOTHING : Check.PLACE);
                }
            }
        }
    }

    /** "BAD: GESTURE, ROW, n; STATE: no CITY (ahead of BAD); NULL; PLACE; then BAD". */
    private static void refusalsInOrder() {
        SignDuty none = new SignDuty();
        none.row(0, 2, 2);
        for (int wrong : new int[] {-1, 8, Integer.MIN_VALUE, Integer.MAX_VALUE}) {
            check.due("STATE ahead of BAD row", none.thread(wrong, 0, 1), Check.STATE);
            check.due("STATE ahead of PLACE", none.thread(0, wrong, 1), Check.STATE);
        }
        check.due("STATE ahead of BAD n", none.thread(0, 0, 0), Check.STATE);
        check.due("STATE ahead of BAD n", none.thread(0, 0, 13), Check.STATE);
        check.due("STATE ahead of NULL", none.thread(1, 0, 1), Check.STATE);
        check.due("STATE", none.thread(0, 0, 1), Check.STATE);
        check.due("no GESTURE", none.inches(0, 0, 0, 1), Check.BAD);
        check.due("no GESTURE", none.sorts(0, 0, 0, 1), Check.BAD);
        SignDuty x = seven();
        x.row(2, 2, 3);
        x.set(2, 0, 7);
        dueOfAll(x, 8, -1, 0, Check.BAD);
        dueOfAll(x, 1, -1, 0, Check.BAD);
        dueOfAll(x, 1, -1, 13, Check.BAD);
        dueOfAll(x, 1, -1, 1, Check.NULL);
        dueOfAll(x, 2, -1, 1, Check.PLACE);
        dueOfAll(x, 2, 0, 2, Check.PLACE);
        dueOfAll(x, 2, 0, 1, Check.BAD);
        check.due("BAD gesture ahead of NULL", x.inches(3, 1, 0, 1), Check.BAD);
        check.due("BAD gesture ahead of PLACE", x.inches(3, 2, 3, 1), Check.BAD);
        check.due("BAD gesture ahead of NULL", x.sorts(-1, 1, 0, 1), Check.BAD);
        check.due("BAD gesture ahead of PLACE", x.sorts(-1, 2, 3, 1), Check.BAD);
    }

    private static void dueOfAll(SignDuty x, int row, int i, int n, int want) {
        String call = row + " " + i + " " + n;
        check.due("thread " + call, x.thread(row, i, n), want);
        check.due("inches " + call, x.inches(0, row, i, n), want);
        check.due("sorts " + call, x.sorts(0, row, i, n), want);
    }

    /** "an ITEM that is no STREET where it ought to be". */
    private static void itemsThatAreStreets() {
        SignDuty x = seven();
        for (int item : new int[] {-1, 7, 40, 128, -128, Integer.MIN_VALUE, Integer.MAX_VALUE}) {
            for (int place : new int[] {0, 2, 4}) {
                x.row(1, 2, 6);
                x.set(1, place, item);
                dueOfAll(x, 1, 0, 3, Check.BAD);
            }
        }
        for (int street = 0; street < 7; street++) {
            x.row(1, 2, 2);
            x.set(1, 0, street);
            x.set(1, 1, 1);
            check.due("street " + street, x.thread(1, 0, 1), 7);
        }
        SignDuty none = Check.cityOf("d1;w1,0,1;");
        none.row(0, 2, 2);
        dueOfAll(none, 0, 0, 1, Check.BAD);
        check.due("no status by it", none.status(), 0);
    }

    /** A DUTY may be any number: by one that is not owed there is nobody, and nothing is refused. */
    private static void itemsThatAreDuties() {
        SignDuty x = seven();
        x.row(1, 2, 2);
        for (int item : new int[] {-1, 99, -1000001, Integer.MIN_VALUE, Integer.MAX_VALUE}) {
            x.set(1, 1, item);
            dueOfAll(x, 1, 0, 1, 0);
        }
        check.due("where a STREET ought not to be", x.thread(1, 0, 1), 0);
    }

    private static void lanes() {
        for (int lane = 0; lane < 3; lane++) {
            SignDuty x = seven();
            x.row(1, lane, 4);
            x.set(1, 0, 6);
            x.set(1, 1, 1);
            x.set(1, 2, 256 * 256 + 5);
            x.set(1, 3, 1);
            check.due("thread by lane " + lane, x.thread(1, 0, 2), lane < 2 ? 7 : Check.BAD);
            x.set(1, 0, 128);
            check.due("128 by lane " + lane, x.thread(1, 0, 1), Check.BAD);
            x.set(1, 0, 256);
            check.due("256 by lane " + lane, x.thread(1, 0, 1), lane == 0 ? 7 : Check.BAD);
        }
        SignDuty y = Check.cityOf("d9;r0,9;w20,0,1;");
        y.row(0, 0, 2);
        check.due("198 as a byte", y.set(0, 1, 198), -58);
        check.due("is not owed", y.thread(0, 0, 1), 0);
        y.row(0, 1, 2);
        check.due("198 as a short", y.set(0, 1, 198), 198);
        check.due("is owed", y.thread(0, 0, 1), 1);
    }

    /** "THREAD: GESTURES that are SEEN in all these and owe so much there". */
    private static void threadIsOfWhatIsSeen() {
        SignDuty x = Check.cityOf("d1;r5,0;r6,0;r10,0;r11,0;w5,0,1;k5,0,1;w6,0,1;w11,0,1;s6,0,1;");
        Check.lay(x, 0, 0, 5, 1, 5, 1, 6, 0, 6, 2, 1, 3, 1, 1, 1, 3, 11);
        check.due("5 at DIM 5", x.thread(0, 0, 1), 1);
        check.due("5 at DIM 6", x.thread(0, 2, 1), 0);
        check.due("in both", x.thread(0, 0, 2), 0);
        check.due("6 at DIM 6", x.thread(0, 4, 1), 4);
        check.due("6 in both", x.thread(0, 4, 2), 4);
        check.due("winks at DIM 10", x.thread(0, 8, 1), 2 | 16);
        check.due("winks at DIM 11", x.thread(0, 10, 1), 16);
        check.due("winks in both", x.thread(0, 8, 2), 16);
        check.due("winks in three", x.thread(0, 8, 3), 16);
        check.due("11 at DIM 11", x.thread(0, 14, 1), 8);
        check.due("LONG, SEEN or not", x.inches(0, 0, 2, 1), 1 << 4);
        check.due("SORTS, SEEN or not", x.sorts(0, 0, 2, 1), 1 << 1 | 1 << 3);
    }

    /** "INCHES (1 to 30, bits 0 to 29)". */
    private static void longIsOfOneToThirty() {
        SignDuty x = Check.cityOf("d1;r0,0;w7,0,1;n7,0,1;b7,0,1;k7,0,1;s7,0,1;");
        int[] duties = {0, 1, 2, 14, 15, 16, 29, 30, 31};
        int[] waves = {0, 1, 2, 1 << 13, 1 << 14, 1 << 15, 1 << 28, 1 << 29, 0};
        int[] nods = {1, 6, 24, 3 << 27, 1 << 29, 0, 0, 0, 0};
        int[] bows = {0, 1, 2, 1 << 11, 0, 1 << 12, 0, 1 << 19, 0};
        int all = (1 << 30) - 1;
        for (int k = 0; k < duties.length; k++) {
            Check.lay(x, 0, 0, duties[k]);
            check.due("wave for " + duties[k], x.inches(0, 0, 0, 1), waves[k]);
            check.due("nod for " + duties[k], x.inches(1, 0, 0, 1), nods[k]);
            check.due("bow for " + duties[k], x.inches(2, 0, 0, 1), bows[k]);
            check.due("wink for " + duties[k], x.inches(3, 0, 0, 1), duties[k] == 1 ? all : 0);
            check.due("shrug for " + duties[k], x.inches(4, 0, 0, 1), duties[k] == 1 ? all : 0);
        }
        Check.lay(x, 0, 0, 50);
        check.due("the longest bow", x.inches(2, 0, 0, 1), 1 << 29);
        Check.lay(x, 0, 0, 51);
        check.due("a longer one", x.inches(2, 0, 0, 1), 0);
    }

    /** LONG by the KIND that the GESTURE has, whatever INCHES it has; KNOWN counts. */
    private static void longIsOfTheKind() {
        SignDuty x = Check.cityOf("d1;r0,4;r0,5;w30,0,1;s30,0,1;");
        Check.lay(x, 0, 0, 1, 1, 1, 1, 15);
        check.due("shrug by STRICT 4", x.inches(1, 0, 0, 1), (1 << 30) - 1);
        check.due("shrug by STRICT 5", x.inches(1, 0, 2, 1), 1);
        check.due("shrug in both", x.inches(1, 0, 0, 2), 1);
        check.due("shrug as a wave", x.inches(1, 0, 4, 1), 1 << 9);
        x.know(1, 1);
        check.due("half", x.inches(1, 0, 4, 1), 1 << 19 | 1 << 20);
        check.due("half of a wave", x.inches(0, 0, 4, 1), 1 << 19 | 1 << 20);
        x.train(1, 29);
        check.due("by any INCHES", x.inches(1, 0, 4, 1), 1 << 19 | 1 << 20);
    }

    /** "KINDS (bits 1 to 5)": 0 is never told. */
    private static void sortsAreOneToFive() {
        SignDuty x = Check.cityOf("d1;r0,0;r0,9;w1,0,1;w2,0,1;w11,0,1;");
        Check.lay(x, 0, 0, 1, 1, 1, 0, 2, 0, 0, 0, 11, 0, 12, 0, 5, 1, 20, 1, 10);
        check.due("1 inch for 1", x.sorts(0, 0, 0, 1), 1 << 1 | 1 << 3 | 1 << 4 | 1 << 5);
        check.due("by STRICT 9", x.sorts(0, 0, 2, 1), 1 << 1 | 1 << 3 | 1 << 4 | 1 << 5);
        check.due("1 inch for 0", x.sorts(0, 0, 6, 1), 1 << 2);
        check.due("2 inches for 1", x.sorts(1, 0, 0, 1), 1 << 2 | 1 << 4 | 1 << 5);
        check.due("2 inches for 1 by STRICT 9", x.sorts(1, 0, 2, 1), 1 << 2 | 1 << 4);
        check.due("2 inches for 2", x.sorts(1, 0, 4, 1), 1 << 1 | 1 << 3);
        check.due("11 inches for 11", x.sorts(2, 0, 8, 1), 1 << 1);
        check.due("11 inches for 12", x.sorts(2, 0, 10, 1), 1 << 3);
        check.due("11 inches for 5", x.sorts(2, 0, 12, 1), 1 << 2);
        check.due("11 inches for 20 by STRICT 9", x.sorts(2, 0, 14, 1), 1 << 1 | 1 << 5);
        check.due("11 inches for 10 by STRICT 9", x.sorts(2, 0, 16, 1), 1 << 2);
        x.know(0, 1);
        check.due("KNOWN, 1 inch for 0", x.sorts(0, 0, 6, 1), 1 << 1 | 1 << 2 | 1 << 3 | 1 << 4 | 1 << 5);
    }

    private static void sortsAtBounds() {
        SignDuty x = Check.cityOf("d1;r0,4;r0,5;w10,0,1;b10,0,1;");
        Check.lay(x, 0, 0, 14, 1, 15, 0, 1, 1, 1);
        check.due("10 inches by STRICT 4", x.sorts(0, 0, 0, 1), 1 << 1 | 1 << 3);
        check.due("10 inches by STRICT 5", x.sorts(0, 0, 2, 1), 1 << 1 | 1 << 3 | 1 << 5);
        check.due("whatever KIND it has", x.sorts(1, 0, 2, 1), 1 << 1 | 1 << 3 | 1 << 5);
        check.due("1 by STRICT 4", x.sorts(0, 0, 4, 1), 1 << 4 | 1 << 5);
        check.due("1 by STRICT 5", x.sorts(0, 0, 6, 1), 1 << 4);
    }

    /** "by which it owes so much in each". */
    private static void severalPairs() {
        SignDuty x = Check.cityOf("d2;r0,0;r0,9;w10,0,1;n10,0,1;");
        Check.lay(x, 0, 0, 10, 1, 14, 0, 10, 1, 29);
        check.due("nod in both", x.thread(0, 0, 2), 2);
        check.due("and again", x.thread(0, 0, 3), 2);
        check.due("but not there", x.thread(0, 0, 4), 0);
        check.due("inches of a nod", x.inches(1, 0, 0, 3), 1 << 9);
        check.due("but none there", x.inches(1, 0, 0, 4), 0);
        check.due("sorts", x.sorts(0, 0, 0, 3), 1 << 2);
        check.due("but none there", x.sorts(0, 0, 0, 4), 0);
        check.due("a wave at the end", x.thread(0, 6, 1), 1);
    }

    private static void noGestures() {
        SignDuty x = Check.cityOf("d1;r0,0;");
        x.row(0, 2, 2);
        check.due("nobody", x.thread(0, 0, 1), 0);
        check.due("no GESTURE 0", x.inches(0, 0, 0, 1), Check.BAD);
        check.due("no GESTURE 0", x.sorts(0, 0, 0, 1), Check.BAD);
    }

    /** What is answered well leaves 0; what is found its number; what is refused leaves all as it was. */
    private static void statusOfThreads() {
        SignDuty x = seven();
        for (int which = 0; which < 3; which++) {
            check.due("well", asked(x, which, 0, 0, 1), which == 2 ? NOD_FOR_NOTHING : 0);
            check.due("status 0", x.status(), 0);
            check.due("missing", asked(x, which, 1, 0, 1), Check.NULL);
            check.due("status 1", x.status(), 1);
            check.due("BAD", asked(x, which, 8, 0, 1), Check.BAD);
            check.due("1 stays", x.status(), 1);
            check.due("beyond", asked(x, which, 0, 39, 1), Check.PLACE);
            check.due("status 2", x.status(), 2);
            x.set(0, 2, 7);
            x.drop(1);
            check.due("no STREET", asked(x, which, 0, 0, 2), Check.BAD);
            check.due("1 stays", x.status(), 1);
            check.due("well", asked(x, which, 0, 0, 1), which == 2 ? NOD_FOR_NOTHING : 0);
            check.due("status 0", x.status(), 0);
        }
    }

    private static int asked(SignDuty x, int which, int row, int i, int n) {
        switch (which) {
            case 0: return x.thread(row, i, n);
            case 1: return x.inches(0, row, i, n);
            default: return x.sorts(0, row, i, n);
        }
    }
}
