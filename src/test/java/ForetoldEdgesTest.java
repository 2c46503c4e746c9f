/** Section 3 of the document, TELL, SHUT, QUICK, SAVED, WORST, TREMBLE at their bounds: promises 17 to 19, 23 to 25. */
public final class ForetoldEdgesTest {
    private static final String WIDE = "d1;" + "r0,0;".repeat(7) + "w9,0,9;k1,0,9;w1,1,1;n1,3,2;";

    private static final Check check = new Check();

    public static void main(String[] args) {
        argumentsOfTell();
        noneBehindTheLast();
        inTime();
        timeOfSevenStreets();
        firstByNumbers();
        leastDutyAheadOfTime();
        laterStreetsDecide();
        nothingOwedAheadOfNone();
        aToB();
        shuts();
        quicks();
        quickIsTheLeastTimeOfTell();
        saves();
        worsts();
        argumentsOfTremble();
        trembleAtThePurse();
        trembleByTenths();
        lowestTerms();
        longerThanThirty();
        trembleWhereTheCutHelps();
        notSeenButOwed();
        noCity();
        check.end();
    }

    private static void argumentsOfTell() {
        SignDuty x = Check.cityOf(WIDE);
        check.bounds("tell means", 0, 3, means -> x.tell(means, 0, 0, 9, -1));
        check.bounds("tell a", 0, 6, a -> x.tell(0, a, 6, 99, -1));
        check.bounds("tell b", 0, 6, b -> x.tell(0, 0, b, 99, -1));
        check.bounds("tell t", 0, 99, t -> x.tell(0, 0, 0, t, -1));
        check.bounds("tell k", -1, 6, k -> x.tell(0, 0, 6, 99, k));
        for (int a = 0; a < 7; a++) {
            for (int b = 0; b < 7; b++) {
                int streets = b - a + 1;
                check.due("tell " + a + " to " + b, x.tell(0, a, b, 99, -1), b < a ? Check.BAD : streets);
                check.due("quick " + a + " to " + b, x.quick(0, a, b), b < a ? Check.BAD : 9 * streets);
                check.due("tremble " + a + " to " + b, x.tremble(0, a, b, 9 * streets, 0, 0), b < a ? Check.BAD : 1);
            }
        }
        SignDuty y = Check.cityOf("d1;r0,0;r0,0;w1,0,1;");
        check.bounds("tell a of two", 0, 1, a -> y.tell(0, a, 1, 9, -1));
        check.bounds("tell b of two", 0, 1, b -> y.tell(0, 0, b, 9, -1));
    }

    /** "the k-th (0 on); NONE: no such one": behind the last street of the row. */
    private static void noneBehindTheLast() {
        SignDuty x = Check.cityOf(WIDE);
        for (int a = 0; a < 7; a++) {
            for (int b = a; b < 7; b++) {
                for (int k = 0; k <= 6; k++) {
                    int due = k <= b - a ? 1 : Check.NONE;
                    check.due("tell " + a + " to " + b + " the " + k, x.tell(0, a, b, 99, k), due);
                }
            }
        }
    }

    /** "TAKE t or less together". */
    private static void inTime() {
        SignDuty x = Check.cityOf("d1;r0,0;r0,0;w5,0,3;w9,0,2;");
        int[] due = {Check.NONE, Check.NONE, Check.NONE, Check.NONE, 18, 14, 10, 10};
        int[] first = {Check.NONE, Check.NONE, Check.NONE, Check.NONE, 1, 0, 0, 0};
        int[] second = {Check.NONE, Check.NONE, Check.NONE, Check.NONE, 1, 1, 0, 0};
        for (int t = 0; t < due.length; t++) {
            check.due("within " + t, x.tell(0, 0, 1, t, -1), due[t]);
            check.due("first within " + t, x.tell(0, 0, 1, t, 0), first[t]);
            check.due("second within " + t, x.tell(0, 0, 1, t, 1), second[t]);
            check.due("third within " + t, x.tell(0, 0, 1, t, 2), Check.NONE);
        }
        check.due("within 0 through one", x.tell(0, 0, 0, 0, -1), Check.NONE);
        check.due("within 1 through one", x.tell(0, 0, 0, 1, -1), Check.NONE);
        check.due("within 2 through one", x.tell(0, 0, 0, 2, -1), 9);
        check.due("within 3 through one", x.tell(0, 0, 0, 3, -1), 5);
    }

    private static void timeOfSevenStreets() {
        SignDuty x = Check.cityOf("d9;" + "r0,9;".repeat(7) + "b30,0,9;");
        check.due("within 62", x.tell(0, 0, 6, 62, -1), Check.NONE);
        check.due("within 63", x.tell(0, 0, 6, 63, -1), 7 * 477);
        check.due("within 64", x.tell(0, 0, 6, 64, -1), 7 * 477);
        check.due("within 99", x.tell(0, 0, 6, 99, -1), 7 * 477);
        check.due("the first within 62", x.tell(0, 0, 6, 62, 0), Check.NONE);
        check.due("the last within 63", x.tell(0, 0, 6, 63, 6), 0);
        SignDuty y = Check.cityOf("d9;" + "r0,9;".repeat(7) + "b30,0,1;");
        check.due("within 6", y.tell(0, 0, 6, 6, -1), Check.NONE);
        check.due("within 7", y.tell(0, 0, 6, 7, -1), 7 * 477);
    }

    /** "of several the first (by numbers, street by street)": of rows that cost as much. */
    private static void firstByNumbers() {
        SignDuty x = Check.cityOf("d1;r0,0;r0,0;r0,0;w5,0,1;w5,0,1;w4,0,3;w6,0,1;");
        dueRow(x, 0, 2, 99, 12, 2, 2, 2);
        dueRow(x, 0, 2, 9, 12, 2, 2, 2);
        dueRow(x, 0, 2, 8, 13, 0, 2, 2);
        dueRow(x, 0, 2, 7, 13, 0, 2, 2);
        dueRow(x, 0, 2, 6, 14, 0, 0, 2);
        dueRow(x, 0, 2, 5, 14, 0, 0, 2);
        dueRow(x, 0, 2, 4, 15, 0, 0, 0);
        dueRow(x, 0, 2, 3, 15, 0, 0, 0);
        SignDuty y = Check.cityOf("d1;r0,0;r0,0;w4,0,3;w5,0,1;w5,0,1;");
        dueRow(y, 0, 1, 4, 9, 0, 1);
        dueRow(y, 0, 1, 3, 10, 1, 1);
        SignDuty z = Check.cityOf("d1;r0,0;r0,0;w5,0,1;w4,0,3;w5,0,1;");
        dueRow(z, 0, 1, 4, 9, 0, 1);
        dueRow(z, 0, 1, 5, 9, 0, 1);
        dueRow(z, 0, 1, 6, 8, 1, 1);
    }

    /** The least DUTY is first, then the numbers: TIME that is left counts nothing. */
    private static void leastDutyAheadOfTime() {
        SignDuty x = Check.cityOf("d1;r0,0;w5,0,9;w5,0,1;w4,0,9;w5,0,2;");
        dueRow(x, 0, 0, 99, 4, 2);
        dueRow(x, 0, 0, 9, 4, 2);
        dueRow(x, 0, 0, 8, 5, 1);
        dueRow(x, 0, 0, 1, 5, 1);
        SignDuty y = Check.cityOf("d1;r0,0;w5,0,9;w5,0,1;");
        dueRow(y, 0, 0, 9, 5, 0);
        dueRow(y, 0, 0, 8, 5, 1);
    }

    /** Where the cheapest of the first street leaves too little time, or DIM and KNOWN differ from street to street. */
    private static void laterStreetsDecide() {
        SignDuty x = Check.cityOf("d1;r0,0;r9,0;w5,0,9;w8,0,1;w20,0,6;w30,0,1;");
        dueRow(x, 0, 1, 99, 25, 0, 2);
        dueRow(x, 0, 1, 15, 25, 0, 2);
        dueRow(x, 0, 1, 14, 28, 1, 2);
        dueRow(x, 0, 1, 7, 28, 1, 2);
        dueRow(x, 0, 1, 6, 38, 1, 3);
        dueRow(x, 0, 1, 2, 38, 1, 3);
        check.due("within 1", x.tell(0, 0, 1, 1, -1), Check.NONE);
        x.know(1, 1);
        dueRow(x, 0, 1, 15, 15, 0, 2);
        dueRow(x, 0, 1, 10, 18, 1, 2);
        x.dim(1, 30);
        dueRow(x, 0, 1, 10, 20, 0, 3);
        x.train(3, 1);
        check.due("nobody is SEEN in 1", x.tell(0, 0, 1, 99, -1), Check.NONE);
        check.due("but in 0", x.tell(0, 0, 0, 99, -1), 5);
    }

    /** "NONE": a street that owes nothing makes no row of one that ends in a street where nobody is SEEN. */
    private static void nothingOwedAheadOfNone() {
        SignDuty x = Check.cityOf("d1;r0,0;r30,0;r0,0;k1,0,2;w9,1,1;");
        x.know(0, 1);
        x.know(1, 1);
        x.know(2, 1);
        for (int k = -1; k <= 6; k++) {
            check.due("to a dark street " + k, x.tell(0, 0, 1, 99, k), Check.NONE);
            check.due("through it " + k, x.tell(0, 0, 2, 99, k), Check.NONE);
            check.due("from it " + k, x.tell(0, 1, 2, 99, k), Check.NONE);
            check.due("in too little time " + k, x.tell(0, 0, 0, 1, k), Check.NONE);
            check.due("for nothing " + k, x.tell(0, 0, 0, 2, k), k < 1 ? 0 : Check.NONE);
        }
        x.dim(1, 6);
        check.due("lit", x.tell(0, 0, 2, 6, -1), 0);
        check.due("in one less", x.tell(0, 0, 2, 5, 0), Check.NONE);
    }

    private static void aToB() {
        SignDuty x = Check.cityOf("d1;r9,0;r5,0;r9,0;r1,0;w9,0,1;w5,0,1;w1,0,1;");
        dueRow(x, 0, 3, 99, 24, 0, 1, 0, 2);
        dueRow(x, 1, 3, 99, 15, 1, 0, 2);
        dueRow(x, 2, 2, 99, 9, 0);
        dueRow(x, 3, 3, 99, 1, 2);
        dueRow(x, 1, 2, 2, 14, 1, 0);
    }

    private static void dueRow(SignDuty x, int a, int b, int t, int duty, int... gestures) {
        String call = "tell " + a + " to " + b + " within " + t + " ";
        check.due(call + "for", x.tell(0, a, b, t, -1), duty);
        for (int k = 0; k < gestures.length; k++) {
            check.due(call + "the " + k, x.tell(0, a, b, t, k), gestures[k]);
        }
        check.due(call + "behind", x.tell(0, a, b, t, gestures.length), Check.NONE);
    }

    /** "SHUT: STREETS (bits) in which no GESTURE that MEANS it is SEEN". */
    private static void shuts() {
        SignDuty x = Check.cityOf("d1;r9,0;r10,0;r14,0;r15,0;r0,0;r30,0;r0,0;w9,0,1;k9,1,1;s9,3,1;w30,3,1;");
        check.due("by a wave", x.shut(0), 2 | 4 | 8 | 32);
        check.due("by a wink", x.shut(1), 8 | 32);
        check.due("by nobody", x.shut(2), 127);
        check.due("by two", x.shut(3), 0);
        check.bounds("shut", 0, 3, x::shut);
        SignDuty none = new SignDuty();
        for (int means : new int[] {0, 3, -1, 4, Integer.MIN_VALUE, Integer.MAX_VALUE}) {
            check.due("STATE ahead of BAD", none.shut(means), Check.STATE);
        }
        check.due("no STREETS", Check.cityOf("d1;").shut(3), 0);
        check.due("BAD then", Check.cityOf("d1;").shut(4), Check.BAD);
        check.due("no GESTURES", Check.cityOf("d1;r0,0;r0,0;").shut(0), 3);
    }

    private static void quicks() {
        SignDuty x = Check.cityOf("d1;r0,0;r9,0;r10,0;r15,0;w8,0,1;w9,0,4;k9,0,7;w10,0,9;s1,3,9;");
        check.due("the quickest", x.quick(0, 0, 0), 1);
        check.due("the quickest that is SEEN", x.quick(0, 1, 1), 4);
        check.due("one more", x.quick(0, 2, 2), 7);
        check.due("three", x.quick(0, 0, 2), 12);
        check.due("NONE in the last", x.quick(0, 3, 3), Check.NONE);
        check.due("NONE for all", x.quick(0, 0, 3), Check.NONE);
        check.due("nobody MEANS it", x.quick(1, 0, 0), Check.NONE);
        check.due("most", x.quick(3, 0, 0), 9);
        check.bounds("quick means", 0, 3, means -> x.quick(means, 0, 0));
        check.bounds("quick a", 0, 3, a -> x.quick(0, a, 3));
        check.bounds("quick b", 0, 3, b -> x.quick(0, 0, b));
        SignDuty y = Check.cityOf("d1;" + "r0,0;".repeat(7) + "w1,0,9;");
        check.due("seven by nine", y.quick(0, 0, 6), 63);
        check.due("b below a", y.quick(0, 6, 5), Check.BAD);
        check.due("b is a", y.quick(0, 6, 6), 9);
    }

    private static void quickIsTheLeastTimeOfTell() {
        SignDuty x = Check.cityOf("d2;r0,3;r9,7;r4,5;w8,0,3;w9,0,4;k9,0,7;s4,0,2;");
        for (int a = 0; a < 3; a++) {
            for (int b = a; b < 3; b++) {
                int time = x.quick(0, a, b);
                check.due("in time", x.tell(0, a, b, time, -1) == Check.NONE ? 1 : 0, 0);
                check.due("in less", x.tell(0, a, b, time - 1, -1), Check.NONE);
            }
        }
    }

    /** "by how much less all STREETS together would cost, were one KNOWN in all of them (SEEN or not)". */
    private static void saves() {
        SignDuty x = Check.cityOf("d1;r30,0;r0,0;r0,9;w5,0,1;k1,0,1;n3,0,1;s6,0,1;");
        int[] due = {3 + 3 + 5, 3, 1 + 1 + 1, 1 + 1 + 6};
        for (int gesture = 0; gesture < 4; gesture++) {
            check.due("saved " + gesture, x.saved(gesture), due[gesture]);
        }
        check.bounds("saved", 0, 3, x::saved);
        x.know(0, 1);
        check.due("one is so already", x.saved(0), 8);
        x.know(1, 1);
        x.know(2, 1);
        check.due("all are", x.saved(0), 0);
        check.due("all are, for a wink", x.saved(1), 0);
        check.due("no STREETS", Check.cityOf("d9;b30,0,1;").saved(0), 0);
        check.due("seven", Check.cityOf("d9;" + "r30,9;".repeat(7) + "b30,0,1;").saved(0), 7 * 239);
    }

    /** "the STREET in which DUTY is most, of several the least; NONE: there are no STREETS". */
    private static void worsts() {
        SignDuty x = Check.cityOf("d1;r0,1;r0,3;r30,9;r0,9;r0,8;w10,0,1;k1,0,1;s10,0,1;");
        dueWorst(x, 0, 2, 19);
        dueWorst(x, 1, 0, 1);
        dueWorst(x, 2, 2, 19);
        x.know(2, 1);
        dueWorst(x, 0, 3, 19);
        dueWorst(x, 1, 0, 1);
        x.know(0, 1);
        dueWorst(x, 1, 1, 1);
        x.know(3, 1);
        dueWorst(x, 0, 4, 18);
        x.know(4, 1);
        dueWorst(x, 0, 1, 13);
        x.know(1, 1);
        dueWorst(x, 0, 2, 9);
        dueWorst(x, 1, 0, 0);
        check.bounds("worst of", 0, 2, gesture -> x.worst(gesture, 0));
        check.bounds("worst what", 0, 1, what -> x.worst(0, what));
        SignDuty none = Check.cityOf("d1;w1,0,1;");
        dueWorst(none, 0, Check.NONE, Check.NONE);
        check.due("BAD ahead of NONE", none.worst(1, 0), Check.BAD);
        check.due("BAD ahead of NONE", none.worst(0, -1), Check.BAD);
    }

    private static void dueWorst(SignDuty x, int gesture, int street, int duty) {
        check.due("worst for " + gesture, x.worst(gesture, 0), street);
        check.due("how much for " + gesture, x.worst(gesture, 1), duty);
    }

    private static void argumentsOfTremble() {
        SignDuty x = Check.cityOf(WIDE);
        check.bounds("tremble of", 0, 3, gesture -> x.tremble(gesture, 0, 0, 9, 5, 0));
        check.bounds("tremble a", 0, 6, a -> x.tremble(0, a, 6, 9, 5, 0));
        check.bounds("tremble b", 0, 6, b -> x.tremble(0, 0, b, 9, 5, 0));
        check.bounds("tremble v", 0, 9999, v -> x.tremble(0, 0, 6, v, 5, 0));
        check.bounds("tremble c", 0, 10, c -> x.tremble(0, 0, 6, 9, c, 0));
        check.bounds("tremble what", 0, 1, what -> x.tremble(0, 0, 6, 9, 5, what));
        SignDuty none = Check.cityOf("d1;w1,0,1;");
        check.due("no STREETS", none.tremble(0, 0, 0, 9, 5, 0), Check.BAD);
    }

    /** "that all DUTY together is v (0 to 9999) or less". */
    private static void trembleAtThePurse() {
        SignDuty x = Check.cityOf("d9;" + "r0,9;".repeat(7) + "b30,0,1;k1,0,1;");
        dueFraction(x, 0, 0, 0, 476, 3, 0, 1);
        dueFraction(x, 0, 0, 0, 477, 3, 7, 10);
        dueFraction(x, 0, 0, 0, 494, 3, 7, 10);
        dueFraction(x, 0, 0, 0, 495, 3, 1, 1);
        dueFraction(x, 0, 0, 6, 7 * 477 - 1, 1, 0, 1);
        dueFraction(x, 0, 0, 6, 7 * 477, 1, 4782969, 10000000);
        dueFraction(x, 0, 0, 6, 7 * 495 - 1, 1, 9999999, 10000000);
        dueFraction(x, 0, 0, 6, 7 * 495, 1, 1, 1);
        dueFraction(x, 0, 0, 6, 9999, 1, 1, 1);
        dueFraction(x, 0, 0, 6, 0, 1, 0, 1);
        dueFraction(x, 1, 0, 6, 6, 9, 0, 1);
        dueFraction(x, 1, 0, 6, 7, 9, 1, 1);
        dueFraction(x, 1, 0, 0, 0, 9, 0, 1);
        x.know(0, 1);
        dueFraction(x, 1, 0, 0, 0, 9, 1, 1);
    }

    /** "it is an inch longer by c of 10 (0 to 10)". */
    private static void trembleByTenths() {
        SignDuty x = Check.cityOf("d1;" + "r0,0;".repeat(7) + "w5,0,1;");
        int[] above = {1, 9, 4, 7, 3, 1, 2, 3, 1, 1, 0};
        int[] below = {1, 10, 5, 10, 5, 2, 5, 10, 5, 10, 1};
        for (int c = 0; c <= 10; c++) {
            dueFraction(x, 0, 3, 3, 5, c, above[c], below[c]);
            dueFraction(x, 0, 3, 3, 4, c, 0, 1);
            dueFraction(x, 0, 3, 3, 6, c, 1, 1);
        }
        dueFraction(x, 0, 0, 1, 11, 1, 99, 100);
        dueFraction(x, 0, 0, 1, 10, 9, 1, 100);
        dueFraction(x, 0, 0, 6, 35, 9, 1, 10000000);
        dueFraction(x, 0, 0, 6, 41, 9, 5217031, 10000000);
        dueFraction(x, 0, 0, 6, 35, 10, 0, 1);
        dueFraction(x, 0, 0, 6, 41, 10, 0, 1);
        dueFraction(x, 0, 0, 6, 42, 10, 1, 1);
        dueFraction(x, 0, 0, 6, 35, 0, 1, 1);
    }

    /** "told as two numbers in lowest terms (0 is 0 by 1)". */
    private static void lowestTerms() {
        SignDuty x = Check.cityOf("d1;" + "r0,0;".repeat(7) + "w5,0,1;");
        dueFraction(x, 0, 0, 1, 10, 5, 1, 4);
        dueFraction(x, 0, 0, 1, 11, 5, 3, 4);
        dueFraction(x, 0, 0, 2, 15, 5, 1, 8);
        dueFraction(x, 0, 0, 2, 16, 5, 1, 2);
        dueFraction(x, 0, 0, 6, 35, 5, 1, 128);
        dueFraction(x, 0, 0, 6, 36, 5, 1, 16);
        dueFraction(x, 0, 0, 6, 38, 5, 1, 2);
        dueFraction(x, 0, 0, 6, 41, 5, 127, 128);
        dueFraction(x, 0, 0, 6, 35, 8, 1, 78125);
        dueFraction(x, 0, 0, 6, 35, 6, 128, 78125);
        dueFraction(x, 0, 0, 1, 10, 2, 16, 25);
        dueFraction(x, 0, 0, 1, 11, 2, 24, 25);
        dueFraction(x, 0, 0, 6, 34, 2, 0, 1);
    }

    /** An inch more than the 30 that a text can tell; and a bow by which the free ten inches end. */
    private static void longerThanThirty() {
        SignDuty x = Check.cityOf("d2;r0,0;r0,9;w30,0,1;b10,0,1;b9,0,1;n1,0,1;");
        dueFraction(x, 0, 0, 0, 61, 4, 3, 5);
        dueFraction(x, 0, 0, 0, 62, 4, 1, 1);
        dueFraction(x, 1, 0, 0, 23, 4, 3, 5);
        dueFraction(x, 1, 0, 0, 24, 4, 1, 1);
        dueFraction(x, 2, 0, 0, 19, 4, 3, 5);
        dueFraction(x, 2, 0, 0, 20, 4, 1, 1);
        dueFraction(x, 3, 0, 0, 1, 4, 3, 5);
        dueFraction(x, 3, 0, 0, 2, 4, 1, 1);
    }

    /** Where the longer GESTURE owes no more, it does not matter whether the hand trembles. */
    private static void trembleWhereTheCutHelps() {
        SignDuty x = Check.cityOf("d1;r0,0;r0,4;n4,0,1;s9,0,1;w4,0,1;");
        dueFraction(x, 0, 0, 0, 2, 7, 1, 1);
        dueFraction(x, 0, 0, 0, 1, 7, 0, 1);
        dueFraction(x, 1, 1, 1, 1, 7, 1, 1);
        x.know(0, 1);
        dueFraction(x, 2, 0, 0, 2, 7, 1, 1);
        dueFraction(x, 2, 0, 0, 1, 7, 0, 1);
    }

    private static void notSeenButOwed() {
        SignDuty x = Check.cityOf("d1;r30,0;r0,0;w5,0,1;");
        dueFraction(x, 0, 0, 1, 11, 3, 91, 100);
        check.due("WORST, SEEN or not", x.worst(0, 0), 0);
        check.due("SAVED, SEEN or not", x.saved(0), 6);
        check.due("DUTY, SEEN or not", x.duty(0, 0), 5);
        check.due("TELL only SEEN", x.tell(0, 0, 1, 99, -1), Check.NONE);
    }

    private static void noCity() {
        SignDuty x = new SignDuty();
        check.due("tell", x.tell(0, 0, 0, 0, -1), Check.BAD);
        check.due("quick", x.quick(0, 0, 0), Check.BAD);
        check.due("saved", x.saved(0), Check.BAD);
        check.due("worst", x.worst(0, 0), Check.BAD);
        check.due("tremble", x.tremble(0, 0, 0, 0, 0, 0), Check.BAD);
        check.due("shut", x.shut(0), Check.STATE);
    }

    private static void dueFraction(SignDuty x, int gesture, int a, int b, int v, int c, int above, int below) {
        String call = "tremble " + gesture + " " + a + " " + b + " " + v + " " + c;
        check.due(call + " above", x.tremble(gesture, a, b, v, c, 0), above);
        check.due(call + " below", x.tremble(gesture, a, b, v, c, 1), below);
    }
}
