/** Promises 1 to 5, and of 33 what rows leave. */
public final class RowsTest {
    private static final Check check = new Check();

    public static void main(String[] args) {
        newObject();
        rows();
        items();
        copies();
        drops();
        check.end();
    }

    private static void newObject() {
        SignDuty x = new SignDuty();
        for (int what = 0; what <= 7; what++) {
            check.due("new count " + what, x.count(what), 0);
        }
        for (int row = 0; row < 8; row++) {
            check.due("new row " + row, x.drop(row), Check.NULL);
        }
        check.due("new status", new SignDuty().status(), 0);
        check.due("new fault", x.fault(), 0);
        check.due("new undo", x.undo(), Check.STATE);
        check.due("new shut", x.shut(0), Check.STATE);
        check.due("new trace", x.trace(0), Check.NONE);
    }

    private static void rows() {
        SignDuty x = new SignDuty();
        check.due("row 7 ints", x.row(7, 2, 40), 40);
        check.due("row 0 bytes", x.row(0, 0, 0), 0);
        check.due("two rows", x.count(0), 2);
        check.due("item is 0", x.copy(7, 0, 7, 39, 1), 1);
        x.set(7, 3, 9);
        check.due("row anew", x.row(7, 1, 4), 4);
        check.due("still two rows", x.count(0), 2);
        check.due("place 4 is gone", x.set(7, 4, 1), Check.PLACE);
        check.due("n above 40", x.row(1, 0, 41), Check.BAD);
        check.due("row 8", x.row(8, 0, 1), Check.BAD);
        check.due("row -1", x.row(-1, 0, 1), Check.BAD);
        check.due("lane 3", x.row(1, 3, 1), Check.BAD);
        check.due("lane -1", x.row(1, -1, 1), Check.BAD);
        check.due("BAD leaves status", x.status(), 2);
        check.due("fewer than none", x.row(7, 0, -1), Check.SIZE);
        check.due("status of SIZE", x.status(), 4);
        check.due("the row stays", x.drop(7), 4);
        check.due("status after it", x.status(), 0);
        check.due("BAD ahead of SIZE", x.row(8, 0, -1), Check.BAD);
        itemsStartAtZero();
    }

    private static void itemsStartAtZero() {
        SignDuty x = Check.cityOf("d1;r0,0;k1,0,1;");
        Check.lay(x, 2, 7, 1);
        check.due("item 0 is 7", x.thread(2, 0, 1), Check.BAD);
        x.row(2, 2, 2);
        x.know(0, 1);
        check.due("items 0 and 0", x.thread(2, 0, 1), 1);
    }

    private static void items() {
        SignDuty x = new SignDuty();
        x.row(0, 0, 2);
        x.row(1, 1, 2);
        x.row(2, 2, 2);
        check.due("byte 127", x.set(0, 0, 127), 127);
        check.due("byte 128", x.set(0, 0, 128), -128);
        check.due("byte 256", x.set(0, 1, 256), 0);
        check.due("byte -129", x.set(0, 1, -129), 127);
        check.due("short 32767", x.set(1, 1, 32767), 32767);
        check.due("short 32768", x.set(1, 1, 32768), -32768);
        check.due("short 65537", x.set(1, 1, 65537), 1);
        check.due("int least", x.set(2, 0, Integer.MIN_VALUE), Integer.MIN_VALUE);
        check.due("int most", x.set(2, 0, Integer.MAX_VALUE), Integer.MAX_VALUE);
        for (int wild : Check.wild()) {
            check.due("place " + wild, x.set(0, wild, 1), Check.PLACE);
            check.due("row " + wild, x.set(wild, 0, 1), Check.BAD);
        }
        check.due("place 2", x.set(0, 2, 1), Check.PLACE);
        check.due("status of PLACE", x.status(), 2);
        check.due("missing row", x.set(3, 99, 1), Check.NULL);
        check.due("status of NULL", x.status(), 1);
        check.due("row 8", x.set(8, 0, 1), Check.BAD);
        check.due("status stays", x.status(), 1);
        check.due("well", x.set(0, 0, 1), 1);
        check.due("status 0", x.status(), 0);
    }

    private static void copies() {
        SignDuty x = new SignDuty();
        x.row(0, 1, 4);
        x.row(1, 1, 3);
        x.row(2, 0, 3);
        check.due("two lanes", x.copy(0, 0, 2, 0, 1), Check.STORE);
        check.due("STORE ahead of PLACE", x.copy(0, 9, 2, 0, 1), Check.STORE);
        check.due("status of STORE", x.status(), 5);
        check.due("NULL ahead of STORE", x.copy(3, 0, 2, 0, 1), Check.NULL);
        check.due("NULL of b", x.copy(2, 0, 3, 0, 1), Check.NULL);
        check.due("row 8", x.copy(0, 0, 8, 0, 1), Check.BAD);
        check.due("row -1", x.copy(-1, 0, 0, 0, 1), Check.BAD);
        check.due("n below 0", x.copy(0, 0, 1, 0, -1), Check.PLACE);
        check.due("i below 0", x.copy(0, -1, 1, 0, 1), Check.PLACE);
        check.due("j below 0", x.copy(0, 0, 1, -1, 1), Check.PLACE);
        check.due("beyond a", x.copy(0, 2, 1, 0, 3), Check.PLACE);
        check.due("beyond b", x.copy(0, 0, 1, 1, 3), Check.PLACE);
        check.due("none at the ends", x.copy(0, 4, 1, 3, 0), 0);
        check.due("none beyond", x.copy(0, 5, 1, 3, 0), Check.PLACE);
        check.due("all", x.copy(1, 0, 0, 1, 3), 3);
        for (int wild : Check.wild()) {
            check.due("i " + wild, x.copy(0, wild, 1, 0, 1), Check.PLACE);
            check.due("j " + wild, x.copy(0, 0, 1, wild, 1), Check.PLACE);
            check.due("n " + wild, x.copy(0, 0, 1, 0, wild), Check.PLACE);
            check.due("i and n " + wild, x.copy(0, wild, 1, wild, Integer.MAX_VALUE), Check.PLACE);
        }
        copiesWithinARow();
    }

    /** What is copied onto itself is read whole ahead: looked at by threads, as items cannot be asked for. */
    private static void copiesWithinARow() {
        SignDuty x = Check.cityOf("d1;r0,0;r0,0;w1,0,1;w2,0,1;w3,0,1;");
        Check.lay(x, 0, 0, 1, 1, 2, 0, 3);
        check.due("onwards", x.copy(0, 0, 0, 2, 4), 4);
        check.due("first pair", x.thread(0, 0, 1), 1);
        check.due("second pair", x.thread(0, 2, 1), 1);
        check.due("third pair", x.thread(0, 4, 1), 2);
        Check.lay(x, 0, 0, 1, 1, 2, 0, 3);
        check.due("backwards", x.copy(0, 2, 0, 0, 4), 4);
        check.due("first of those", x.thread(0, 0, 1), 2);
        check.due("second of those", x.thread(0, 2, 1), 4);
        check.due("third of those", x.thread(0, 4, 1), 4);
        Check.lay(x, 1, 1, 2);
        check.due("to another row", x.copy(1, 0, 0, 4, 2), 2);
        check.due("there", x.thread(0, 4, 1), 2);
        check.due("and street 1 came along", x.inches(0, 0, 4, 1), 2);
        check.due("the source stays", x.thread(1, 0, 1), 2);
    }

    private static void drops() {
        SignDuty x = new SignDuty();
        x.row(5, 1, 17);
        check.due("drop", x.drop(5), 17);
        check.due("drop again", x.drop(5), Check.NULL);
        check.due("no row", x.count(0), 0);
        x.row(5, 1, 0);
        check.due("an empty row is one", x.count(0), 1);
        check.due("drop of none", x.drop(5), 0);
        for (int wild : Check.wild()) {
            check.due("drop " + wild, x.drop(wild), Check.BAD);
        }
        check.due("drop 8", x.drop(8), Check.BAD);
    }
}
