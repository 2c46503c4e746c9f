/** Section 1 of the document, TEXTS and FAULTS at their bounds: promises 6 to 8. */
public final class TextEdgesTest {
    /** The longest text of a city: 113 bytes. */
    private static final String LONGEST = "d09;" + "r30,09;".repeat(7) + "w30,03,09;n01,00,01;".repeat(3);

    private static final Check check = new Check();

    public static void main(String[] args) {
        bytes();
        tapeOf120();
        fullTapeIsRead();
        everyByteEverywhere();
        everyNumber();
        runsOfFigures();
        upToSevenStreets();
        upToSixGestures();
        roomOrPlace();
        everyEnd();
        firstFault();
        latestFault();
        cityInPlaceOfTheOneBefore();
        tapeIsEmptyThen();
        check.end();
    }

    /** "A byte (0 to 255)". */
    private static void bytes() {
        SignDuty x = new SignDuty();
        check.bounds("feed", 0, 255, x::feed);
        check.due("four of them were taken", x.count(7), 4);
        SignDuty y = new SignDuty();
        SignDuty z = new SignDuty();
        for (int letter = 0; letter < 120; letter++) {
            check.due("feed " + letter, y.feed(letter), letter + 1);
            check.due("feed " + (255 - letter), z.feed(255 - letter), letter + 1);
        }
    }

    /** "THE TAPE has at most 120 bytes": BAD, then FULL. */
    private static void tapeOf120() {
        SignDuty x = new SignDuty();
        for (int n = 1; n <= 120; n++) {
            check.due("byte " + n, x.feed('d'), n);
            check.due("as many", x.count(7), n);
        }
        for (int more = 0; more < 3; more++) {
            check.due("no more", x.feed('d'), Check.FULL);
            check.due("120 stay", x.count(7), 120);
        }
        for (int wrong : new int[] {-1, 256, Integer.MIN_VALUE, Integer.MAX_VALUE}) {
            check.due("BAD ahead of FULL", x.feed(wrong), Check.BAD);
        }
        check.due("read", x.city(), -1000101);
        for (int n = 1; n <= 120; n++) {
            check.due("byte " + n + " again", x.feed('d'), n);
        }
        check.due("FULL again", x.feed('d'), Check.FULL);
    }

    /** The longest city there is is shorter than the tape; what is behind it is a fault at its first byte. */
    private static void fullTapeIsRead() {
        check.due("the longest", LONGEST.length(), 113);
        dueRead(LONGEST, 6);
        dueFault(LONGEST + "w", 113, 3);
        dueFault(LONGEST + "r", 113, 1);
        dueFault(LONGEST + "wwwwwww", 113, 3);
        dueFault(LONGEST + ";;;;;;;", 113, 1);
        dueFault(LONGEST + "rrrrrrr", 113, 1);
        SignDuty x = Check.feed(new SignDuty(), LONGEST + "1111111");
        check.due("byte 121 is not on the tape", x.feed('d'), Check.FULL);
        check.due("fault of the rest", x.city(), -1000213);
        check.due("its number", x.fault(), 1);
    }

    /**
     * "TOKENS: letters a to z, NUMBERS, SIGNS , and ; nothing else, no blanks": each of the 256 bytes behind the begin of
     * a text. By those that may stand there the fault is the end, one byte later.
     */
    private static void everyByteEverywhere() {
        dueOfEveryByte("", "d", "", 0, "", 0);
        dueOfEveryByte("d", "123456789", "0", 1, "", 0);
        dueOfEveryByte("d1", "", "0123456789", 1, ";", 0);
        dueOfEveryByte("d1;", "rwnbks", "", 0, "", 0);
        dueOfEveryByte("d1;r", "0123456789", "", 0, "", 0);
        dueOfEveryByte("d1;r1", "0123456789,", "", 0, "", 0);
        dueOfEveryByte("d1;r3", "0,", "123456789", 4, "", 0);
        dueOfEveryByte("d1;r1,", "0123456789", "", 0, "", 0);
        dueOfEveryByte("d1;r1,1", "", "0123456789", 6, ";", 0);
        dueOfEveryByte("d1;r1,1;", "rwnbks", "", 0, "", 0);
        dueOfEveryByte("d1;w", "123456789", "0", 4, "", 0);
        dueOfEveryByte("d1;n1", "0123456789,", "", 0, "", 0);
        dueOfEveryByte("d1;b1,", "0123", "456789", 6, "", 0);
        dueOfEveryByte("d1;k1,1", ",", "0123456789", 6, "", 0);
        dueOfEveryByte("d1;k1,0", "0123,", "456789", 6, "", 0);
        dueOfEveryByte("d1;s1,1,", "123456789", "0", 8, "", 0);
        dueOfEveryByte("d1;w1,1,1", "", "0123456789", 8, ";", 1);
        dueOfEveryByte("d1;w1,1,1;", "wnbks", "", 0, "", 0);
        dueOfEveryByte("d1;r1,1;w1,1,1;", "wnbks", "", 0, "", 0);
    }

    /** Those that make a NUMBER at a place one that is not as told; those that end a CITY of so many GESTURES. */
    private static void dueOfEveryByte(String begin, String mayStand, String notAsTold, int place, String ends, int gestures) {
        for (int letter = 0; letter < 256; letter++) {
            String text = begin + (char) letter;
            if (mayStand.indexOf(letter) >= 0) {
                dueFault(text, text.length(), 1);
            } else if (notAsTold.indexOf(letter) >= 0) {
                dueFault(text, place, 2);
            } else if (ends.indexOf(letter) >= 0) {
                dueRead(text, gestures);
            } else {
                dueFault(text, begin.length(), 1);
            }
        }
    }

    /** "d RATE (1 to 9)", "r DIM, STRICT (0 to 30; 0 to 9)", "INCHES, MEANS, TAKES (1 to 30; 0 to 3; 1 to 9)". */
    private static void everyNumber() {
        for (int number = 0; number <= 99; number++) {
            everyNumber(String.valueOf(number), number);
            if (number <= 9) {
                everyNumber("0" + number, number);
            }
        }
    }

    private static void everyNumber(String figures, int number) {
        SignDuty rate = dueNumber("d", figures, ";r1,1;w1,1,1;", number >= 1 && number <= 9);
        check.due("RATE " + figures, rate.count(4), number >= 1 && number <= 9 ? number : 0);
        SignDuty dim = dueNumber("d1;r", figures, ",1;w1,1,1;", number <= 30);
        check.due("DIM " + figures, dim.street(0, 0), number <= 30 ? number : Check.BAD);
        SignDuty strict = dueNumber("d1;r1,", figures, ";w1,1,1;", number <= 9);
        check.due("STRICT " + figures, strict.street(0, 1), number <= 9 ? number : Check.BAD);
        SignDuty inches = dueNumber("d1;r1,1;w", figures, ",1,1;", number >= 1 && number <= 30);
        check.due("INCHES " + figures, inches.gesture(0, 0), number >= 1 && number <= 30 ? number : Check.BAD);
        SignDuty means = dueNumber("d1;r1,1;w1,", figures, ",1;", number <= 3);
        check.due("MEANS " + figures, means.gesture(0, 1), number <= 3 ? number : Check.BAD);
        SignDuty takes = dueNumber("d1;r1,1;w1,1,", figures, ";", number >= 1 && number <= 9);
        check.due("TAKES " + figures, takes.gesture(0, 2), number >= 1 && number <= 9 ? number : Check.BAD);
    }

    private static SignDuty dueNumber(String begin, String figures, String end, boolean isAsTold) {
        SignDuty x = Check.feed(new SignDuty(), begin + figures + end);
        check.due(begin + figures + end, x.city(), isAsTold ? 1 : -1000100 - begin.length());
        check.due("fault of " + begin + figures + end, x.fault(), isAsTold ? 0 : 2);
        return x;
    }

    /** "1 it is none (a run of three figures, at its first)", though it were as told, and though it were not. */
    private static void runsOfFigures() {
        String[] begins = {"", "d", "d1;", "d1;r", "d1;r1,", "d1;r1,1;", "d1;w", "d1;w1,", "d1;w1,1,", "d1;w1,1,1;"};
        String[] runs = {"000", "001", "010", "100", "111", "999", "0001", "9999", "2147483648", "4294967297", "00000000000000000001"};
        String[] ends = {"", ",", ";", ",1;", "x"};
        for (String begin : begins) {
            for (String run : runs) {
                for (String end : ends) {
                    dueFault(begin + run + end, begin.length(), 1);
                }
            }
        }
        dueFault("d" + "1".repeat(119), 1, 1);
        dueFault("1".repeat(120), 0, 1);
    }

    /** "STREETS 0 .. 6, 7 at most"; "3 a street more than there is room for (its letter)". */
    private static void upToSevenStreets() {
        for (int n = 0; n <= 9; n++) {
            String text = "d1;" + "r1,2;".repeat(n);
            if (n <= 7) {
                SignDuty x = dueRead(text, 0);
                check.due("STREETS", x.count(1), n);
                check.due("the last STREET", x.street(n - 1, 1), n == 0 ? Check.BAD : 2);
                check.due("none behind it", x.street(n, 1), Check.BAD);
            } else {
                dueFault(text, 38, 3);
            }
        }
    }

    /** "GESTURES 0 .. 5, 6 at most"; "3 a gesture more than there is room for (its letter)". */
    private static void upToSixGestures() {
        for (int n = 0; n <= 8; n++) {
            for (String sort : "w n b k s".split(" ")) {
                String text = "d1;" + (sort + "1,2,3;").repeat(n);
                if (n <= 6) {
                    SignDuty x = dueRead(text, n);
                    check.due("GESTURES", x.count(2), n);
                    check.due("the last GESTURE", x.gesture(n - 1, 1), n == 0 ? Check.BAD : 2);
                    check.due("none behind it", x.gesture(n, 1), Check.BAD);
                } else {
                    dueFault(text, 45, 3);
                }
            }
        }
    }

    /** "of one TOKEN the least": a letter that cannot stand there is no street, no gesture too many. */
    private static void roomOrPlace() {
        String seven = "d1;" + "r1,2;".repeat(7);
        String six = "d1;" + "w1,2,3;".repeat(6);
        dueFault(seven + "r", 38, 3);
        dueFault(seven + "r31,1;", 38, 3);
        dueFault(seven + "r111", 38, 3);
        dueFault(seven + "rr", 38, 3);
        dueFault(seven + "d", 38, 1);
        dueFault(seven + "a", 38, 1);
        dueFault(seven + "w", 39, 1);
        dueFault(seven + "w1,2,3;r", 45, 1);
        dueFault(six + "r", 45, 1);
        for (String sort : "w n b k s".split(" ")) {
            dueFault(six + sort, 45, 3);
            dueFault(six + sort + "0,4,0;", 45, 3);
            dueFault(six + sort + "111", 45, 3);
        }
        dueFault(six + "x", 45, 1);
        dueFault(six + ";", 45, 1);
        dueFault(six + "111", 45, 1);
        dueFault(seven + "w1,2,3;".repeat(6) + "w", 80, 3);
        dueFault(seven + "w1,2,3;".repeat(6) + "r", 80, 1);
        dueFault("d1;w1,2,3;r1,2;", 10, 1);
        dueFault("d1;99", 3, 1);
        dueFault("99", 0, 1);
        dueFault("0", 0, 1);
        dueFault("d1;r1,2;99", 8, 1);
    }

    /** "the end: how many bytes there are": a text ends well behind the ; of a law, a street, a gesture alone. */
    private static void everyEnd() {
        for (int n = 0; n <= LONGEST.length(); n++) {
            String text = LONGEST.substring(0, n);
            if (text.endsWith(";")) {
                dueRead(text, Math.max(0, (n - 53) / 10));
            } else {
                dueEnd(text);
            }
        }
    }

    /** A number that is cut behind a 0 may be none that is told: then it is the fault, as it stands ahead of the end. */
    private static void dueEnd(String text) {
        int last = text.length() - 1;
        boolean isCut = text.equals("d0") || text.matches(".*(;n0|,0[0-3],0)");
        dueFault(text, isCut ? last : text.length(), isCut ? 2 : 1);
    }

    /** "the first TOKEN that has one": though a later one has a lesser number, or an earlier kind. */
    private static void firstFault() {
        dueFault("d0;x", 1, 2);
        dueFault("d0x", 1, 2);
        dueFault("d0", 1, 2);
        dueFault("d01", 3, 1);
        dueFault("d0;r31,10;", 1, 2);
        dueFault("d1;r31,10;", 4, 2);
        dueFault("d1;r30,10;", 7, 2);
        dueFault("d1;r30,9,", 8, 1);
        dueFault("d1;r31,,", 4, 2);
        dueFault("d1;r31", 4, 2);
        dueFault("d1,r31", 2, 1);
        dueFault("x0;", 0, 1);
        dueFault("d1;w31,4,10;", 4, 2);
        dueFault("d1;w30,4,10;", 7, 2);
        dueFault("d1;w30,3,10;", 9, 2);
        dueFault("d1;" + "r1,2;".repeat(6) + "r31,2;r1,2;", 34, 2);
        dueFault("d1;" + "r1,2;".repeat(7) + "r1,2;x", 38, 3);
        dueFault("d1;r1,2;!r", 8, 1);
    }

    /** "The number of the latest FAULT; 0 before one." */
    private static void latestFault() {
        SignDuty x = new SignDuty();
        check.due("before one", x.fault(), 0);
        Check.feed(x, "d1;").city();
        check.due("none yet", x.fault(), 0);
        Check.feed(x, "d0;").city();
        check.due("2", x.fault(), 2);
        Check.feed(x, "d1;" + "r1,1;".repeat(8)).city();
        check.due("3", x.fault(), 3);
        x.feed(300);
        x.row(0, 0, -1);
        check.due("3 by other refusals", x.fault(), 3);
        x.city();
        check.due("1", x.fault(), 1);
        Check.feed(x, "d1;").city();
        check.due("the latest stays", x.fault(), 1);
        check.due("it is asked twice", x.fault(), 1);
    }

    private static void cityInPlaceOfTheOneBefore() {
        SignDuty x = Check.cityOf("d9;r9,9;r9,9;w9,1,9;w9,2,9;");
        x.row(2, 1, 7);
        x.image(1);
        x.know(0, 1);
        x.make(0, 0);
        x.make(1, 1);
        check.due("ahead of it", x.count(6), 3);
        check.due("read", Check.feed(x, "d2;r1,1;w5,1,1;").city(), 1);
        int[] due = {1, 1, 1, 0, 2, 0, 0, 0};
        for (int what = 0; what < 8; what++) {
            check.due("count " + what, x.count(what), due[what]);
        }
        check.due("no ACT", x.undo(), Check.STATE);
        check.due("nobody KNOWN", x.street(0, 2), 0);
        check.due("never MADE", x.gesture(0, 4), 0);
        check.due("no STREET 1", x.street(1, 0), Check.BAD);
        check.due("no GESTURE 1", x.gesture(1, 0), Check.BAD);
        check.due("the ROW stays", x.drop(2), 7);
        check.due("IMAGE 0 is none", x.restore(0), Check.STATE);
        check.due("IMAGE 1 stays", x.restore(1), 1);
        check.due("as it was", x.count(1), 2);
        check.due("a CITY without anything", Check.feed(x, "d1;").city(), 0);
        check.due("no STREETS", x.count(1), 0);
        check.due("no GESTURES", x.count(2), 0);
        check.due("RATE", x.count(4), 1);
        check.due("none SEEN", x.street(0, 3), Check.BAD);
        check.due("it is a CITY", x.shut(0), 0);
    }

    /** "The tape, empty then, is read": by a fault, too; nothing of it comes back. */
    private static void tapeIsEmptyThen() {
        SignDuty x = Check.feed(new SignDuty(), "d1;w1,1,1;");
        check.due("read", x.city(), 1);
        check.due("empty", x.count(7), 0);
        check.due("the end", x.city(), -1000100);
        check.due("the CITY stays", x.count(2), 1);
        check.due("fed", x.feed('d'), 1);
        check.due("the end at 1", x.city(), -1000101);
        check.due("empty", x.count(7), 0);
        check.due("the end at 0", x.city(), -1000100);
    }

    private static SignDuty dueRead(String text, int gestures) {
        SignDuty x = Check.feed(new SignDuty(), text);
        check.due(text, x.city(), gestures);
        check.due("no fault of " + text, x.fault(), 0);
        check.due("the tape after " + text, x.count(7), 0);
        return x;
    }

    private static void dueFault(String text, int place, int number) {
        SignDuty x = Check.feed(new SignDuty(), text);
        check.due(text, x.city(), -1000100 - place);
        check.due("fault of " + text, x.fault(), number);
        check.due("no CITY by " + text, x.shut(0), Check.STATE);
        check.due("the tape after " + text, x.count(7), 0);
    }
}
