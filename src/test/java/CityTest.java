/** Promises 6 to 8: the tape, what is read from it, and its faults. */
public final class CityTest {
    private static final Check check = new Check();

    public static void main(String[] args) {
        tape();
        cities();
        bounds();
        misplaced();
        notAsTold();
        noRoom();
        faultLeavesAll();
        newCityClears();
        check.end();
    }

    private static void tape() {
        SignDuty x = new SignDuty();
        check.due("feed 0", x.feed(0), 1);
        check.due("feed 255", x.feed(255), 2);
        check.due("feed 256", x.feed(256), Check.BAD);
        for (int wild : Check.wild()) {
            check.due("feed " + wild, x.feed(wild), Check.BAD);
        }
        check.due("two bytes", x.count(7), 2);
        for (int i = 3; i <= 120; i++) {
            check.due("feed to " + i, x.feed('d'), i);
        }
        check.due("feed to 121", x.feed('d'), Check.FULL);
        check.due("BAD ahead of FULL", x.feed(-1), Check.BAD);
        check.due("120 bytes", x.count(7), 120);
        check.due("its fault", x.city(), -1000100);
        check.due("empty then", x.count(7), 0);
        check.due("and fed again", x.feed('d'), 1);
    }

    private static void cities() {
        reads("d1;", 0);
        reads("d09;", 0);
        reads("d5;r1,2;", 0);
        reads("d5;k1,2,3;", 1);
        reads(Check.TOWN, 6);
        reads("d1;r0,0;r0,0;r0,0;r0,0;r0,0;r0,0;r0,0;w1,0,1;n1,0,1;b1,0,1;k1,0,1;s1,0,1;w1,0,1;", 6);
        SignDuty x = Check.cityOf("d07;r03,4;w09,02,5;");
        check.due("RATE", x.count(4), 7);
        check.due("DIM", x.street(0, 0), 3);
        check.due("STRICT", x.street(0, 1), 4);
        check.due("INCHES", x.gesture(0, 0), 9);
        check.due("MEANS", x.gesture(0, 1), 2);
        check.due("TAKES", x.gesture(0, 2), 5);
        String longest = "d01;r00,00;r00,00;r00,00;r00,00;r00,00;r00,00;r00,00;w01,00,01;w01,00,01;w01,00,01;w01,00,01;w01,00,1;w01,00,1;";
        check.due("a full tape", longest.length() <= 120 ? 1 : 0, 1);
        reads(longest, 6);
    }

    private static void bounds() {
        SignDuty x = Check.cityOf("d9;r30,9;r0,0;w30,3,9;w1,0,1;");
        check.due("most RATE", x.count(4), 9);
        check.due("most DIM", x.street(0, 0), 30);
        check.due("most STRICT", x.street(0, 1), 9);
        check.due("most INCHES", x.gesture(0, 0), 30);
        check.due("most MEANS", x.gesture(0, 1), 3);
        check.due("most TAKES", x.gesture(0, 2), 9);
        check.due("least INCHES", x.gesture(1, 0), 1);
    }

    private static void misplaced() {
        faults("", 0, 1);
        faults("d", 1, 1);
        faults("d1", 2, 1);
        faults(";", 0, 1);
        faults(" d1;", 0, 1);
        faults("d1; ", 3, 1);
        faults("D1;", 0, 1);
        faults("d;", 1, 1);
        faults("d1,", 2, 1);
        faults("d1r", 2, 1);
        faults("d111;", 1, 1);
        faults("d0011;", 1, 1);
        faults("d000", 1, 1);
        faults("123", 0, 1);
        faults("d1;123", 3, 1);
        faults("d1;d1;", 3, 1);
        faults("d1;r1,1;r", 9, 1);
        faults("d1;r1;1;", 5, 1);
        faults("d1;r1,,", 6, 1);
        faults("d1;r100,1;", 4, 1);
        faults("d1;r1,1,", 7, 1);
        faults("d1;w1,1,1;r1,1;", 10, 1);
        faults("d1;w1,1,1;d1;", 10, 1);
        faults("d1;w1,1;", 7, 1);
        faults("d1;w1,1,1", 9, 1);
        faults("d1;w1,1,1,", 9, 1);
        faults("d1;w,1,1;", 4, 1);
        faults("d1;w1,1,001;", 8, 1);
        faults("d1;x", 3, 1);
        faults("d1;w1,1,1;z", 10, 1);
        faults("d1;" + (char) 233, 3, 1);
        faults("d" + (char) 178 + ";", 1, 1);
        faults("d1;;", 3, 1);
    }

    private static void notAsTold() {
        faults("d0", 1, 2);
        faults("d00;", 1, 2);
        faults("d10;", 1, 2);
        faults("d0x", 1, 2);
        faults("d1;r31,1;", 4, 2);
        faults("d1;r30,10;", 7, 2);
        faults("d1;w0,1,1;", 4, 2);
        faults("d1;w31,1,1;", 4, 2);
        faults("d1;w30,4,1;", 7, 2);
        faults("d1;w30,3,0;", 9, 2);
        faults("d1;w30,3,10;", 9, 2);
        faults("d1;w99", 4, 2);
        faults("d0;r1x", 1, 2);
    }

    private static void noRoom() {
        StringBuilder streets = new StringBuilder("d1;");
        for (int i = 0; i < 7; i++) {
            streets.append("r1,1;");
        }
        String seven = streets.toString();
        faults(seven + "r1,1;", 38, 3);
        faults(seven + "r", 38, 3);
        faults(seven + "r99", 38, 3);
        faults(seven + "x", 38, 1);
        reads(seven + "w1,1,1;", 1);
        StringBuilder gestures = new StringBuilder("d1;");
        for (int i = 0; i < 6; i++) {
            gestures.append("wnbksw".charAt(i)).append("1,1,1;");
        }
        String six = gestures.toString();
        faults(six + "w1,1,1;", 45, 3);
        faults(six + "s", 45, 3);
        faults(six + "r1,1;", 45, 1);
        faults(six + "d", 45, 1);
        faults(seven + "w1,1,1;r1,1;", 45, 1);
    }

    private static void faultLeavesAll() {
        SignDuty x = Check.cityOf(Check.TOWN);
        x.make(0, 0);
        x.know(2, 1);
        x.image(0);
        x.ask(0, 0);
        x.drop(0);
        Check.feed(x, "d9;r1,1;w7,7,7;");
        check.due("a fault", x.city(), -1000100 - 11);
        check.due("its number", x.fault(), 2);
        check.due("RATE stays", x.count(4), 3);
        check.due("STREETS stay", x.count(1), 4);
        check.due("GESTURES stay", x.count(2), 6);
        check.due("PAID stays", x.count(3), 60);
        check.due("KNOWN stays", x.count(5), 1);
        check.due("ACTS stay", x.count(6), 2);
        check.due("DIM stays", x.street(0, 0), 0);
        check.due("INCHES stay", x.gesture(0, 0), 20);
        check.due("status stays", x.status(), 1);
        check.due("trace stays", x.trace(0), 11);
        check.due("the tape is empty", x.count(7), 0);
        check.due("undo", x.undo(), 1);
        check.due("undo", x.undo(), 0);
        check.due("not PAID", x.count(3), 0);
        Check.feed(x, "d2;");
        check.due("a city", x.city(), 0);
        check.due("the latest fault", x.fault(), 2);
        check.due("the image stays", x.restore(0), 1);
        check.due("its PAID", x.count(3), 60);
        check.due("the end", x.city(), -1000100);
        check.due("a later fault", x.fault(), 1);
    }

    private static void newCityClears() {
        SignDuty x = Check.cityOf(Check.TOWN);
        x.row(3, 0, 5);
        x.make(0, 0);
        x.know(0, 1);
        Check.feed(x, "d2;r0,0;w5,1,1;");
        check.due("read", x.city(), 1);
        check.due("PAID 0", x.count(3), 0);
        check.due("none KNOWN", x.count(5), 0);
        check.due("not KNOWN", x.street(0, 2), 0);
        check.due("no ACT", x.undo(), Check.STATE);
        check.due("not MADE", x.gesture(0, 4), 0);
        check.due("one STREET", x.count(1), 1);
        check.due("one GESTURE", x.count(2), 1);
        check.due("no GESTURE 1", x.gesture(1, 0), Check.BAD);
        check.due("no STREET 1", x.street(1, 0), Check.BAD);
        check.due("ROWS stay", x.drop(3), 5);
    }

    private static void reads(String text, int gestures) {
        SignDuty x = Check.feed(new SignDuty(), text);
        check.due(text, x.city(), gestures);
        check.due(text + " has no fault", x.fault(), 0);
        check.due(text + " is off the tape", x.count(7), 0);
    }

    private static void faults(String text, int place, int number) {
        SignDuty x = Check.feed(new SignDuty(), text);
        check.due(text, x.city(), -1000100 - place);
        check.due("fault of " + text, x.fault(), number);
        check.due("no city by " + text, x.shut(0), Check.STATE);
        check.due("the tape after " + text, x.count(7), 0);
    }
}
