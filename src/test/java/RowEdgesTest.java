/** Section 1 of the document, ROWS, LANES and ITEMS at their bounds: promises 2 to 5. */
public final class RowEdgesTest {
    /** A city by which an item of 1 to 30 can be told: a wave of so many inches owes as much in street 0. */
    private static final String TELLING = "d1;r0,0;w1,0,1;";

    private static final Check check = new Check();

    public static void main(String[] args) {
        eightRows();
        threeLanes();
        upToFortyItems();
        refusalsOfRowInOrder();
        itemsStartAtZero();
        inPlaceOfWhatIsThere();
        places();
        lowestBits();
        whatTheItemIsThen();
        missingAtFirst();
        copiesOfAllPlaces();
        copiesAtTheEndsOfInt();
        refusalsOfCopyInOrder();
        drops();
        check.end();
    }

    /** "ROWS 0 .. 7". */
    private static void eightRows() {
        SignDuty x = new SignDuty();
        check.bounds("row", 0, 7, row -> x.row(row, 0, 3));
        for (int row = 0; row < 8; row++) {
            check.due("row " + row, x.row(row, 0, 3), 3);
            check.due("set of " + row, x.set(row, 2, row), row);
            check.due("copy of " + row, x.copy(row, 0, row, 1, 2), 2);
        }
        check.due("eight ROWS", x.count(0), 8);
        check.bounds("set", 0, 7, row -> x.set(row, 0, 1));
        check.bounds("copy from", 0, 7, row -> x.copy(row, 0, 0, 0, 1));
        check.bounds("copy to", 0, 7, row -> x.copy(0, 0, row, 0, 1));
        check.bounds("drop", 0, 7, row -> x.drop(row));
        for (int row = 0; row < 8; row++) {
            boolean isDropped = row < 2 || row > 5;
            check.due("drop " + row, x.drop(row), isDropped ? Check.NULL : 3);
        }
        check.due("no ROWS", x.count(0), 0);
    }

    /** "a LANE (0 bytes, 1 shorts, 2 ints)". */
    private static void threeLanes() {
        SignDuty x = new SignDuty();
        check.bounds("lane", 0, 2, lane -> x.row(0, lane, 1));
        int[] due = {0x45, 0x2345, 0x12345};
        for (int lane = 0; lane < 3; lane++) {
            x.row(lane, lane, 1);
            check.due("item of lane " + lane, x.set(lane, 0, 0x12345), due[lane]);
        }
    }

    /** "0 to 40 ITEMS"; "BAD: n above 40; SIZE": fewer than none is found, not refused. */
    private static void upToFortyItems() {
        SignDuty x = new SignDuty();
        int[] sizes = {Integer.MIN_VALUE, -1, 0, 1, 39, 40, 41, Integer.MAX_VALUE};
        int[] due = {Check.SIZE, Check.SIZE, 0, 1, 39, 40, Check.BAD, Check.BAD};
        for (int lane = 0; lane < 3; lane++) {
            for (int k = 0; k < sizes.length; k++) {
                check.due("row of " + sizes[k], x.row(lane, lane, sizes[k]), due[k]);
                check.due("there are ROWS then", x.count(0), k < 2 ? lane : lane + 1);
                int status = k < 2 ? 4 : 0;
                check.due("status after " + sizes[k], x.status(), status);
            }
            check.due("40 stay", x.set(lane, 39, 1), 1);
            check.due("no more than 40", x.set(lane, 40, 1), Check.PLACE);
        }
    }

    private static void refusalsOfRowInOrder() {
        SignDuty x = new SignDuty();
        int[] wrongRows = {-1, 8, Integer.MIN_VALUE, Integer.MAX_VALUE};
        for (int wrong : wrongRows) {
            check.due("ROW ahead of SIZE", x.row(wrong, 0, -1), Check.BAD);
            check.due("LANE ahead of SIZE", x.row(0, wrong == 8 ? 3 : wrong, -1), Check.BAD);
        }
        check.due("none is there", x.count(0), 0);
        check.due("no status", x.status(), 0);
    }

    /** "ITEMS, 0 at first": all forty, in each lane, anew too, and after a drop. */
    private static void itemsStartAtZero() {
        for (int lane = 0; lane < 3; lane++) {
            SignDuty x = Check.cityOf("d1;r0,0;k1,0,1;");
            x.know(0, 1);
            x.row(0, lane, 40);
            dueZeros(x);
            for (int i = 0; i < 40; i++) {
                x.set(0, i, -1);
            }
            check.due("no zeros", x.thread(0, 0, 1), Check.BAD);
            x.row(0, lane, 40);
            dueZeros(x);
            x.set(0, 39, 5);
            x.drop(0);
            x.row(0, lane, 40);
            dueZeros(x);
        }
    }

    /** A wink that owes nothing is told by zeros alone. */
    private static void dueZeros(SignDuty x) {
        check.due("24 zeros", x.thread(0, 0, 12), 1);
        check.due("16 zeros more", x.thread(0, 24, 8), 1);
    }

    /** "in place of what is there": what was beyond a shorter row does not come back by a longer one. */
    private static void inPlaceOfWhatIsThere() {
        SignDuty x = Check.cityOf(TELLING);
        x.row(0, 2, 3);
        x.set(0, 2, 9);
        check.due("item 9", itemAt(x, 0, 2, 2), 9);
        x.row(0, 2, 2);
        check.due("none there", x.set(0, 2, 1), Check.PLACE);
        x.row(0, 2, 3);
        check.due("0 again", itemAt(x, 0, 2, 2), 0);
        x.row(0, 0, 3);
        check.due("another lane", x.set(0, 2, 128), -128);
    }

    private static void places() {
        SignDuty x = new SignDuty();
        for (int n : new int[] {0, 1, 2, 40}) {
            x.row(0, 2, n);
            for (int i : new int[] {Integer.MIN_VALUE, -1, 0, n - 1, n, n + 1, Integer.MAX_VALUE}) {
                boolean isThere = i >= 0 && i < n;
                check.due("place " + i + " of " + n, x.set(0, i, 7), isThere ? 7 : Check.PLACE);
                check.due("status of it", x.status(), isThere ? 0 : 2);
            }
        }
        check.due("BAD ahead of PLACE", x.set(8, -1, 7), Check.BAD);
        check.due("NULL ahead of PLACE", x.set(1, -1, 7), Check.NULL);
    }

    /** "its lowest bits, as many as the LANE has". */
    private static void lowestBits() {
        int[] told = {0, 1, -1, 127, 128, 129, 255, 256, 257, -127, -128, -129, -255, -256, -257,
            32767, 32768, 32769, 65535, 65536, 65537, -32767, -32768, -32769, -65535, -65536, -65537,
            Integer.MAX_VALUE, Integer.MIN_VALUE, Integer.MAX_VALUE - 1, Integer.MIN_VALUE + 1};
        int[] bytes = {0, 1, -1, 127, -128, -127, -1, 0, 1, -127, -128, 127, 1, 0, -1,
            -1, 0, 1, -1, 0, 1, 1, 0, -1, 1, 0, -1,
            -1, 0, -2, 1};
        int[] shorts = {0, 1, -1, 127, 128, 129, 255, 256, 257, -127, -128, -129, -255, -256, -257,
            32767, -32768, -32767, -1, 0, 1, -32767, -32768, 32767, 1, 0, -1,
            -1, 0, -2, 1};
        SignDuty x = new SignDuty();
        for (int lane = 0; lane < 3; lane++) {
            x.row(lane, lane, 1);
        }
        for (int k = 0; k < told.length; k++) {
            check.due("byte " + told[k], x.set(0, 0, told[k]), bytes[k]);
            check.due("short " + told[k], x.set(1, 0, told[k]), shorts[k]);
            check.due("int " + told[k], x.set(2, 0, told[k]), told[k]);
        }
    }

    /** "what it is then": the item is what was answered, not what was given. */
    private static void whatTheItemIsThen() {
        SignDuty x = Check.cityOf(TELLING);
        int[] given = {7 + 256, 7 + 65536, 7, 7 - 256, 7 - 65536};
        for (int k = 0; k < given.length; k++) {
            int lane = k % 3;
            x.row(0, lane, 2);
            check.due("set " + given[k], x.set(0, 1, given[k]), 7);
            check.due("the item", x.inches(0, 0, 0, 1), 1 << 6);
        }
    }

    private static void missingAtFirst() {
        SignDuty x = Check.cityOf(TELLING);
        x.row(0, 0, 2);
        for (int row = 1; row < 8; row++) {
            check.due("set of " + row, x.set(row, 0, 1), Check.NULL);
            check.due("copy of " + row, x.copy(row, 0, 0, 0, 0), Check.NULL);
            check.due("copy to " + row, x.copy(0, 0, row, 0, 0), Check.NULL);
            check.due("drop of " + row, x.drop(row), Check.NULL);
            check.due("thread of " + row, x.thread(row, 0, 1), Check.NULL);
            check.due("inches of " + row, x.inches(0, row, 0, 1), Check.NULL);
            check.due("sorts of " + row, x.sorts(0, row, 0, 1), Check.NULL);
        }
    }

    /** "n ITEMS of a from i on come to b from j on, as they were ahead"; "PLACE (i, j, n below 0, or beyond an end)". */
    private static void copiesOfAllPlaces() {
        for (int i = -1; i <= 6; i++) {
            for (int j = -1; j <= 6; j++) {
                for (int n = -1; n <= 6; n++) {
                    copiesWithin(5, i, j, n);
                    copiesBetween(5, 4, i, j, n);
                }
            }
        }
    }

    private static void copiesWithin(int length, int i, int j, int n) {
        SignDuty x = Check.cityOf(TELLING);
        int lane = (i + j + n + 3) % 3;
        int[] items = laid(x, 0, lane, length, 1);
        boolean fits = fits(length, i, n) && fits(length, j, n);
        check.due("copy 0 " + i + " 0 " + j + " " + n, x.copy(0, i, 0, j, n), fits ? n : Check.PLACE);
        check.due("status of it", x.status(), fits ? 0 : 2);
        int[] due = items.clone();
        for (int k = 0; fits && k < n; k++) {
            due[j + k] = items[i + k];
        }
        dueItems(x, 0, lane, due);
    }

    private static void copiesBetween(int length, int other, int i, int j, int n) {
        SignDuty x = Check.cityOf(TELLING);
        int lane = (i + j + n + 3) % 3;
        int[] from = laid(x, 0, lane, length, 1);
        int[] to = laid(x, 1, lane, other, 11);
        boolean fits = fits(length, i, n) && fits(other, j, n);
        check.due("copy 0 " + i + " 1 " + j + " " + n, x.copy(0, i, 1, j, n), fits ? n : Check.PLACE);
        for (int k = 0; fits && k < n; k++) {
            to[j + k] = from[i + k];
        }
        dueItems(x, 0, lane, from);
        dueItems(x, 1, lane, to);
    }

    private static boolean fits(int length, int i, int n) {
        return i >= 0 && n >= 0 && i + n <= length;
    }

    private static int[] laid(SignDuty x, int row, int lane, int length, int first) {
        int[] items = new int[length];
        x.row(row, lane, length);
        for (int k = 0; k < length; k++) {
            items[k] = first + k;
            x.set(row, k, first + k);
        }
        return items;
    }

    private static void dueItems(SignDuty x, int row, int lane, int[] due) {
        for (int k = 0; k < due.length; k++) {
            check.due("item " + k + " of " + row, itemAt(x, row, k, lane), due[k]);
        }
    }

    /** An item of 1 to 30; 0, if it is another. It is copied behind a 0, as the duty of a thread. */
    private static int itemAt(SignDuty x, int row, int i, int lane) {
        x.row(7, lane, 2);
        x.copy(row, i, 7, 1, 1);
        int bits = x.inches(0, 7, 0, 1);
        return bits == 0 ? 0 : 1 + Integer.numberOfTrailingZeros(bits);
    }

    /** Sums of places that wrap around are beyond an end, too. */
    private static void copiesAtTheEndsOfInt() {
        SignDuty x = new SignDuty();
        x.row(0, 2, 40);
        x.row(1, 2, 40);
        int[] ends = {Integer.MIN_VALUE, Integer.MIN_VALUE + 1, -1, 41, Integer.MAX_VALUE - 1, Integer.MAX_VALUE};
        for (int i : ends) {
            for (int n : ends) {
                check.due("from " + i + " by " + n, x.copy(0, i, 1, 0, n), Check.PLACE);
                check.due("to " + i + " by " + n, x.copy(0, 0, 1, i, n), Check.PLACE);
                check.due("both " + i + " by " + n, x.copy(0, i, 1, i, n), Check.PLACE);
            }
            check.due("1 from " + i, x.copy(0, i, 1, 0, 1), Check.PLACE);
            check.due("1 to " + i, x.copy(0, 0, 1, i, 1), Check.PLACE);
            check.due("none from " + i, x.copy(0, i, 1, 0, 0), Check.PLACE);
            check.due("none to " + i, x.copy(0, 0, 1, i, 0), Check.PLACE);
            check.due("n " + i, x.copy(0, 1, 1, 1, i), Check.PLACE);
        }
        check.due("all 40", x.copy(0, 0, 1, 0, 40), 40);
        check.due("the last", x.copy(0, 39, 1, 39, 1), 1);
        check.due("none behind it", x.copy(0, 40, 1, 40, 0), 0);
    }

    /** "BAD: ROWS; NULL; STORE; PLACE". */
    private static void refusalsOfCopyInOrder() {
        SignDuty x = new SignDuty();
        x.row(0, 0, 2);
        x.row(1, 1, 2);
        x.row(2, 2, 2);
        check.due("BAD a ahead of NULL", x.copy(8, 0, 3, 0, 1), Check.BAD);
        check.due("BAD b ahead of NULL", x.copy(3, 0, 8, 0, 1), Check.BAD);
        check.due("NULL ahead of PLACE", x.copy(3, -1, 0, -1, -1), Check.NULL);
        check.due("both NULL", x.copy(3, 0, 4, 0, 0), Check.NULL);
        check.due("NULL to itself", x.copy(3, 0, 3, 0, 0), Check.NULL);
        for (int a = 0; a < 3; a++) {
            for (int b = 0; b < 3; b++) {
                check.due("lanes " + a + " and " + b, x.copy(a, 0, b, 0, 2), a == b ? 2 : Check.STORE);
                check.due("their status", x.status(), a == b ? 0 : 5);
                check.due("STORE ahead of PLACE", x.copy(a, 0, b, 0, 3), a == b ? Check.PLACE : Check.STORE);
                check.due("STORE even of none", x.copy(a, 2, b, 2, 0), a == b ? 0 : Check.STORE);
            }
        }
        x.row(1, 0, 2);
        check.due("of one LANE now", x.copy(0, 0, 1, 0, 2), 2);
        x.drop(1);
        check.due("and missing", x.copy(0, 0, 1, 0, 2), Check.NULL);
    }

    private static void drops() {
        SignDuty x = new SignDuty();
        for (int n : new int[] {0, 1, 39, 40}) {
            x.row(3, 1, n);
            check.due("drop of " + n, x.drop(3), n);
            check.due("status 0", x.status(), 0);
            check.due("missing from now on", x.drop(3), Check.NULL);
            check.due("status 1", x.status(), 1);
            check.due("for set, too", x.set(3, 0, 1), Check.NULL);
            check.due("and counted no more", x.count(0), 0);
        }
    }
}
