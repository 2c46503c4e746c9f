/** Promises 14 to 16: what gestures and streets are, and what is owed. */
public final class LooksTest {
    private static final Check check = new Check();

    public static void main(String[] args) {
        gestures();
        streets();
        duties();
        bows();
        seenAtTheEdge();
        check.end();
    }

    private static void gestures() {
        SignDuty x = Check.cityOf(Check.TOWN);
        int[][] due = {{20, 0, 4, 15, 0}, {12, 0, 2, 11, 0}, {30, 1, 9, 15, 0}, {8, 0, 6, 11, 0}, {15, 1, 3, 15, 0}, {7, 2, 1, 9, 0}};
        for (int gesture = 0; gesture < 6; gesture++) {
            for (int what = 0; what < 5; what++) {
                check.due("gesture " + gesture + " " + what, x.gesture(gesture, what), due[gesture][what]);
            }
        }
        check.due("what 5", x.gesture(0, 5), Check.BAD);
        check.due("what -1", x.gesture(0, -1), Check.BAD);
        check.due("gesture 6", x.gesture(6, 0), Check.BAD);
        for (int wild : Check.wild()) {
            check.due("gesture " + wild, x.gesture(wild, 0), Check.BAD);
            check.due("what " + wild, x.gesture(0, wild), Check.BAD);
        }
    }

    private static void streets() {
        SignDuty x = Check.cityOf(Check.TOWN);
        x.know(2, 1);
        int[][] due = {{0, 0, 0, 63}, {12, 5, 0, 31}, {20, 9, 1, 21}, {7, 3, 0, 63}};
        for (int street = 0; street < 4; street++) {
            for (int what = 0; what < 4; what++) {
                check.due("street " + street + " " + what, x.street(street, what), due[street][what]);
            }
        }
        check.due("what 4", x.street(0, 4), Check.BAD);
        check.due("what -1", x.street(0, -1), Check.BAD);
        check.due("street 4", x.street(4, 0), Check.BAD);
        for (int wild : Check.wild()) {
            check.due("street " + wild, x.street(wild, 0), Check.BAD);
            check.due("what " + wild, x.street(0, wild), Check.BAD);
        }
    }

    private static void duties() {
        SignDuty x = Check.cityOf(Check.TOWN);
        int[][] due = {{60, 70, 78, 66}, {18, 21, 23, 19}, {150, 165, 177, 159}, {1, 1, 1, 1}, {1, 52, 58, 1}, {10, 12, 13, 11}};
        for (int gesture = 0; gesture < 6; gesture++) {
            for (int street = 0; street < 4; street++) {
                check.due("duty " + gesture + " " + street, x.duty(gesture, street), due[gesture][street]);
            }
        }
        for (int street = 0; street < 4; street++) {
            x.know(street, 1);
        }
        for (int gesture = 0; gesture < 6; gesture++) {
            for (int street = 0; street < 4; street++) {
                check.due("known duty " + gesture + " " + street, x.duty(gesture, street), due[gesture][street] / 2);
            }
        }
        check.due("gesture 6", x.duty(6, 0), Check.BAD);
        check.due("street 4", x.duty(0, 4), Check.BAD);
        for (int wild : Check.wild()) {
            check.due("gesture " + wild, x.duty(wild, 0), Check.BAD);
            check.due("street " + wild, x.duty(0, wild), Check.BAD);
        }
    }

    private static void seenAtTheEdge() {
        SignDuty x = Check.cityOf("d1;r30,0;r10,0;r11,0;r15,0;r16,0;w10,0,1;n10,0,1;b10,0,1;k10,0,1;s10,0,1;");
        for (int gesture = 0; gesture < 5; gesture++) {
            check.due("SEEN " + gesture, x.gesture(gesture, 3), gesture < 3 ? 2 : 14);
        }
        int[] due = {0, 31, 24, 24, 0};
        for (int street = 0; street < 5; street++) {
            check.due("SEEN in " + street, x.street(street, 3), due[street]);
        }
    }

    private static void bows() {
        SignDuty x = Check.cityOf("d2;r0,4;r0,5;b10,0,1;b11,0,1;b9,0,1;s9,0,1;n1,0,1;");
        check.due("10 inches", x.duty(0, 0), 24);
        check.due("11 inches", x.duty(1, 0), 28);
        check.due("9 inches", x.duty(2, 0), 21);
        check.due("shrug by STRICT 4", x.duty(3, 0), 1);
        check.due("shrug by STRICT 5", x.duty(3, 1), 22);
        check.due("nod", x.duty(4, 0), 1);
    }
}
