/** Section 2 of the document, DUTY and SEEN at their bounds: promises 14 to 16. */
public final class DutyEdgesTest {
    private static final String SORTS = "wnbks";

    private static final Check check = new Check();

    public static void main(String[] args) {
        tenthIsCut();
        nodIsCut();
        bowAboveTen();
        winkOwesOne();
        shrugAtStrictFive();
        knownIsCut();
        everyDuty();
        seenAtDim();
        everySeen();
        longestAndShortest();
        argumentsOfLooks();
        noStreetsNoGestures();
        check.end();
    }

    private static void dueDuties(String text, int... due) {
        SignDuty x = Check.cityOf(text);
        int streets = x.count(1);
        for (int gesture = 0; gesture < x.count(2); gesture++) {
            for (int street = 0; street < streets; street++) {
                check.due(text + " " + gesture + " in " + street, x.duty(gesture, street), due[gesture * streets + street]);
            }
        }
    }

    /** "a tenth (cut) of INCHES times STRICT": of the product, not of the INCHES. */
    private static void tenthIsCut() {
        dueDuties("d1;r0,1;w9,0,1;w10,0,1;w11,0,1;w19,0,1;w20,0,1;w29,0,1;", 9, 11, 12, 20, 22, 31);
        dueDuties("d1;r0,9;w1,0,1;w2,0,1;w15,0,1;w30,0,1;", 1, 3, 28, 57);
        dueDuties("d1;r0,5;w1,0,1;w2,0,1;w3,0,1;w4,0,1;", 1, 3, 4, 6);
        dueDuties("d9;r0,0;r0,9;w30,0,1;w1,0,1;", 270, 297, 9, 9);
    }

    /** "of a nod half of what a wave would owe (cut)". */
    private static void nodIsCut() {
        dueDuties("d1;r0,0;r0,9;n1,0,1;n2,0,1;n3,0,1;n4,0,1;", 0, 0, 1, 1, 1, 2, 2, 3);
        dueDuties("d9;r0,9;r0,8;n30,0,1;n29,0,1;", 148, 147, 143, 142);
    }

    /** "of a bow what a wave would, and RATE more for each inch above 10". */
    private static void bowAboveTen() {
        dueDuties("d1;r0,0;b9,0,1;b10,0,1;b11,0,1;b12,0,1;b30,0,1;b1,0,1;", 9, 10, 12, 14, 50, 1);
        dueDuties("d9;r0,9;b9,0,1;b10,0,1;b11,0,1;b12,0,1;b30,0,1;b1,0,1;", 89, 99, 117, 136, 477, 9);
    }

    /** "of a wink 1": whatever RATE, STRICT and INCHES are. */
    private static void winkOwesOne() {
        dueDuties("d9;r0,9;r0,0;k30,0,1;k1,0,1;", 1, 1, 1, 1);
    }

    /** "of a shrug so, but in STREETS with STRICT 5 or more what a wave would". */
    private static void shrugAtStrictFive() {
        dueDuties("d2;r0,0;r0,4;r0,5;r0,6;r0,9;s10,0,1;s1,0,1;", 1, 1, 25, 26, 29, 1, 1, 2, 2, 2);
    }

    /** "In a STREET where one is KNOWN DUTY is a half of all that (cut)": all is added first, and then cut. */
    private static void knownIsCut() {
        SignDuty x = Check.cityOf("d3;r0,9;r0,0;w1,0,1;n5,0,1;b11,0,1;k9,0,1;s3,0,1;w2,0,1;");
        int[] inFirst = {3, 9, 45, 1, 11, 7};
        int[] inSecond = {3, 7, 36, 1, 1, 6};
        int[] half = {1, 4, 22, 0, 5, 3};
        for (int gesture = 0; gesture < 6; gesture++) {
            check.due("not KNOWN " + gesture, x.duty(gesture, 0), inFirst[gesture]);
        }
        x.know(0, 1);
        for (int gesture = 0; gesture < 6; gesture++) {
            check.due("KNOWN " + gesture, x.duty(gesture, 0), half[gesture]);
            check.due("not KNOWN in the next " + gesture, x.duty(gesture, 1), inSecond[gesture]);
        }
        x.know(0, 0);
        for (int gesture = 0; gesture < 6; gesture++) {
            check.due("not any more " + gesture, x.duty(gesture, 0), inFirst[gesture]);
        }
    }

    /** All RATES, INCHES, sorts, STRICTS, KNOWN or not. */
    private static void everyDuty() {
        for (int rate = 1; rate <= 9; rate++) {
            for (int inches = 1; inches <= 30; inches++) {
                everyDuty(rate, inches, 0);
                everyDuty(rate, inches, 5);
            }
        }
    }

    private static void everyDuty(int rate, int inches, int strict) {
        StringBuilder text = new StringBuilder("d").append(rate).append(';');
        for (int street = 0; street < 5; street++) {
            text.append("r0,").append(strict + street).append(';');
        }
        for (int sort = 0; sort < 5; sort++) {
            text.append(SORTS.charAt(sort)).append(inches).append(",0,1;");
        }
        SignDuty x = Check.cityOf(text.toString());
        for (int is = 0; is <= 1; is++) {
            for (int street = 0; street < 5; street++) {
                for (int sort = 0; sort < 5; sort++) {
                    int due = owed(SORTS.charAt(sort), rate, inches, strict + street);
                    check.due(text + " " + sort + " in " + street + " known " + is, x.duty(sort, street), is == 1 ? due >> 1 : due);
                }
                x.know(street, 1);
            }
        }
    }

    /** Counted inch by inch, in tenths, so that nothing is divided before all is together. */
    private static int owed(char sort, int rate, int inches, int strict) {
        int tenths = 0;
        int above = 0;
        for (int inch = 1; inch <= inches; inch++) {
            tenths += 10 * rate + strict;
            above += inch > 10 ? rate : 0;
        }
        int wave = (tenths - tenths % 10) / 10;
        switch (sort) {
            case 'w': return wave;
            case 'n': return wave >> 1;
            case 'b': return wave + above;
            case 'k': return 1;
            default: return strict > 4 ? wave : 1;
        }
    }

    /** "SEEN, if INCHES are DIM or more; a wink, a shrug is SEEN, if INCHES and 5 are". */
    private static void seenAtDim() {
        SignDuty x = Check.cityOf("d1;r11,0;r12,0;r13,0;r16,0;r17,0;r18,0;w12,0,1;n12,0,1;b12,0,1;k12,0,1;s12,0,1;");
        for (int gesture = 0; gesture < 5; gesture++) {
            check.due("SEEN " + gesture, x.gesture(gesture, 3), gesture < 3 ? 3 : 31);
            int last = gesture < 3 ? 1 : 4;
            check.due("made at DIM " + gesture, x.make(gesture, last) > 0 ? 1 : 0, 1);
            check.due("not one above " + gesture, x.make(gesture, last + 1), Check.STATE);
        }
        int[] due = {31, 31, 24, 24, 24, 0};
        for (int street = 0; street < 6; street++) {
            check.due("SEEN in " + street, x.street(street, 3), due[street]);
        }
    }

    /** All INCHES, all sorts, all DIMS. */
    private static void everySeen() {
        for (int inches = 1; inches <= 30; inches++) {
            StringBuilder text = new StringBuilder("d1;r0,0;");
            for (int sort = 0; sort < 5; sort++) {
                text.append(SORTS.charAt(sort)).append(inches).append(",0,1;");
            }
            SignDuty x = Check.cityOf(text.toString());
            for (int dim = 0; dim <= 30; dim++) {
                x.dim(0, dim);
                int due = (dim <= inches ? 7 : 0) + (dim - 5 <= inches ? 24 : 0);
                check.due(inches + " inches at DIM " + dim, x.street(0, 3), due);
                check.due("a bow", x.gesture(2, 3), due & 1);
                check.due("a wink", x.gesture(3, 3), due >> 3 & 1);
            }
        }
    }

    private static void longestAndShortest() {
        SignDuty x = Check.cityOf("d1;r30,0;r0,0;r6,0;r7,0;w30,0,1;w29,0,1;k25,0,1;k24,0,1;k1,0,1;w1,0,1;");
        int[] due = {15, 14, 15, 14, 6, 2};
        for (int gesture = 0; gesture < 6; gesture++) {
            check.due("SEEN " + gesture, x.gesture(gesture, 3), due[gesture]);
        }
        x.dim(1, 1);
        check.due("1 at DIM 1", x.gesture(5, 3), 2);
        x.dim(1, 2);
        check.due("1 at DIM 2", x.gesture(5, 3), 0);
        x.train(0, 1);
        check.due("29 then", x.gesture(0, 3), 14);
        x.train(2, 1);
        check.due("24 then", x.gesture(2, 3), 14);
    }

    private static void argumentsOfLooks() {
        SignDuty x = Check.cityOf("d1;" + "r0,0;".repeat(7) + "w1,0,1;".repeat(6));
        check.bounds("gesture", 0, 5, gesture -> x.gesture(gesture, 0));
        check.bounds("gesture what", 0, 4, what -> x.gesture(0, what));
        check.bounds("street", 0, 6, street -> x.street(street, 0));
        check.bounds("street what", 0, 3, what -> x.street(0, what));
        check.bounds("duty of", 0, 5, gesture -> x.duty(gesture, 0));
        check.bounds("duty in", 0, 6, street -> x.duty(0, street));
        check.due("all STREETS see", x.gesture(5, 3), 127);
        check.due("all GESTURES are seen", x.street(6, 3), 63);
        SignDuty y = Check.cityOf("d1;r0,0;r0,0;w1,0,1;w1,0,1;");
        check.bounds("gesture of two", 0, 1, gesture -> y.gesture(gesture, 0));
        check.bounds("street of two", 0, 1, street -> y.street(street, 0));
        check.bounds("duty of two", 0, 1, gesture -> y.duty(gesture, 1));
        check.bounds("duty in two", 0, 1, street -> y.duty(1, street));
    }

    private static void noStreetsNoGestures() {
        SignDuty x = Check.cityOf("d1;w1,0,1;");
        check.due("SEEN nowhere", x.gesture(0, 3), 0);
        check.due("no DUTY", x.duty(0, 0), Check.BAD);
        check.due("no STREET", x.street(0, 0), Check.BAD);
        SignDuty y = Check.cityOf("d1;r0,0;");
        check.due("none SEEN", y.street(0, 3), 0);
        check.due("no GESTURE", y.gesture(0, 0), Check.BAD);
        check.due("nor DUTY", y.duty(0, 0), Check.BAD);
    }
}
