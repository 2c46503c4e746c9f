/** IMAGES, KINDS, ASKS, THE TRACE, counts and status() at their bounds: promises 1, 26 to 33. */
public final class AskedEdgesTest {
    private static final String SORTS = "wnbks";

    private static final Check check = new Check();

    public static void main(String[] args) {
        newObject();
        twoImages();
        imageIsApart();
        restoreForgetsActs();
        whatImagesLeave();
        kindsAndTakenAs();
        asksAtTheEnds();
        bodiesInOrder();
        traceOfSixteen();
        traceIsEmptyAhead();
        counts();
        statusOfEachCall();
        statusOfOtherCalls();
        sixOfAKind();
        check.end();
    }

    /** "No CITY": nothing is there, all that needs something is refused. */
    private static void newObject() {
        SignDuty x = new SignDuty();
        check.due("status", x.status(), 0);
        check.due("fault", x.fault(), 0);
        check.due("none to undo", x.undo(), Check.STATE);
        check.due("no image", x.restore(0), Check.STATE);
        check.due("no image", x.restore(1), Check.STATE);
        check.due("nothing to keep", x.image(0), Check.STATE);
        check.due("nothing to keep", x.image(1), Check.STATE);
        for (int i = -1; i <= 16; i++) {
            check.due("trace " + i, x.trace(i), Check.NONE);
        }
        for (int what = -1; what <= 8; what++) {
            check.due("count " + what, x.count(what), what < 0 || what > 7 ? Check.BAD : 0);
        }
        check.due("no GESTURE", x.kind(0), Check.BAD);
        check.due("no GESTURE", x.as(0, 0), Check.BAD);
        check.due("no GESTURE", x.ask(0, 0), Check.BAD);
        check.due("status still", x.status(), 0);
    }

    /** "An IMAGE (0, 1)"; "BAD; STATE". */
    private static void twoImages() {
        SignDuty x = new SignDuty();
        for (int wrong : new int[] {-1, 2, Integer.MIN_VALUE, Integer.MAX_VALUE}) {
            check.due("BAD ahead of STATE", x.image(wrong), Check.BAD);
            check.due("BAD ahead of STATE", x.restore(wrong), Check.BAD);
        }
        Check.feed(x, "d1;r3,0;").city();
        check.bounds("image", 0, 1, x::image);
        check.bounds("restore", 0, 1, x::restore);
        SignDuty y = Check.cityOf("d1;r3,0;");
        check.due("kept", y.image(0), 1);
        check.due("only that", y.restore(1), Check.STATE);
        check.due("is there", y.restore(0), 1);
        check.due("and again", y.restore(0), 1);
    }

    private static void imageIsApart() {
        SignDuty x = Check.cityOf("d1;r3,2;w9,0,4;k5,1,6;");
        x.make(0, 0);
        x.image(0);
        x.make(0, 0);
        x.dim(0, 0);
        x.train(0, 8);
        x.know(0, 1);
        x.image(1);
        Check.feed(x, "d9;r30,9;r30,9;b30,3,9;").city();
        check.due("restored", x.restore(0), 1);
        dueCity(x, 10, 3, 9, 1, 0);
        x.dim(0, 20);
        x.undo();
        x.train(0, 1);
        check.due("again", x.restore(0), 1);
        dueCity(x, 10, 3, 9, 1, 0);
        check.due("the other", x.restore(1), 1);
        dueCity(x, 20, 0, 1, 2, 1);
        check.due("kept in place of the first", x.image(0), 1);
        check.due("the other stays", x.restore(1), 1);
        dueCity(x, 20, 0, 1, 2, 1);
        check.due("is the same now", x.restore(0), 1);
        dueCity(x, 20, 0, 1, 2, 1);
    }

    private static void dueCity(SignDuty x, int paid, int dim, int inches, int made, int known) {
        int[] counts = {0, 1, 2, paid, 1, known, 0, 0};
        for (int what = 0; what < 8; what++) {
            check.due("count " + what, x.count(what), counts[what]);
        }
        int[] gesture = {inches, 0, 4, inches >= dim ? 1 : 0, made};
        for (int what = 0; what < 5; what++) {
            check.due("gesture " + what, x.gesture(0, what), gesture[what]);
        }
        check.due("KIND", x.kind(1), 4);
        check.due("MEANS", x.gesture(1, 1), 1);
        check.due("TAKES", x.gesture(1, 2), 6);
        check.due("DIM", x.street(0, 0), dim);
        check.due("STRICT", x.street(0, 1), 2);
        check.due("KNOWN", x.street(0, 2), known);
    }

    /** "(no ACT can be undone then)"; an IMAGE that is kept leaves the ACTS. */
    private static void restoreForgetsActs() {
        SignDuty x = Check.cityOf("d1;r3,2;w9,0,4;");
        x.dim(0, 1);
        x.image(0);
        check.due("one ACT yet", x.count(6), 1);
        x.dim(0, 2);
        check.due("undone", x.undo(), 1);
        check.due("undone", x.undo(), 0);
        check.due("DIM", x.street(0, 0), 3);
        x.dim(0, 5);
        check.due("restored", x.restore(0), 1);
        check.due("no ACT", x.count(6), 0);
        check.due("none", x.undo(), Check.STATE);
        check.due("DIM", x.street(0, 0), 1);
        x.dim(0, 9);
        check.due("STATE leaves ACTS", x.restore(1), Check.STATE);
        check.due("undone", x.undo(), 0);
        check.due("DIM", x.street(0, 0), 1);
    }

    /** ROWS, the tape, what fault(), status() and THE TRACE tell are not of the CITY. */
    private static void whatImagesLeave() {
        SignDuty x = Check.cityOf("d1;r3,2;w9,0,4;");
        x.image(0);
        x.city();
        x.row(4, 0, 6);
        x.ask(0, 0);
        x.feed('d');
        x.drop(5);
        check.due("restored", x.restore(0), 1);
        check.due("status", x.status(), 1);
        check.due("fault", x.fault(), 1);
        check.due("trace", x.trace(0), 11);
        check.due("tape", x.count(7), 1);
        check.due("row", x.drop(4), 6);
    }

    /** "0 GESTURE; 1 WAVE, a GESTURE; 2 NOD, a WAVE; 3 BOW, a WAVE; 4 WINK, a GESTURE; 5 SHRUG, a WINK". */
    private static void kindsAndTakenAs() {
        String[] are = {"01", "012", "013", "04", "045"};
        SignDuty x = Check.cityOf("d1;w1,0,1;n1,0,1;b1,0,1;k1,0,1;s1,0,1;");
        for (int gesture = 0; gesture < 5; gesture++) {
            check.due("kind of " + gesture, x.kind(gesture), gesture + 1);
            for (int kind = 0; kind <= 5; kind++) {
                boolean is = are[gesture].indexOf('0' + kind) >= 0;
                check.due(gesture + " as " + kind, x.as(gesture, kind), is ? gesture : Check.KIND);
                check.due("status of it", x.status(), is ? 0 : 3);
            }
        }
        check.bounds("kind", 0, 4, x::kind);
        check.bounds("as of", 0, 4, gesture -> x.as(gesture, 0));
        check.bounds("as kind", 0, 5, kind -> x.as(0, kind));
        check.due("found", x.as(4, 1), Check.KIND);
        check.due("BAD gesture", x.as(5, 1), Check.BAD);
        check.due("BAD kind", x.as(4, 6), Check.BAD);
        check.due("status stays", x.status(), 3);
    }

    private static void asksAtTheEnds() {
        SignDuty x = Check.cityOf("d1;w1,0,1;w1,0,1;");
        check.bounds("ask of", 0, 1, gesture -> x.ask(gesture, 0));
        check.bounds("ask", 0, 1, what -> x.ask(0, what));
        SignDuty none = Check.cityOf("d1;");
        check.due("no GESTURE", none.ask(0, 0), Check.BAD);
    }

    /** Each body leaves its number as it begins, so that the outer is ahead of the inner. */
    private static void bodiesInOrder() {
        SignDuty x = Check.cityOf("d1;w1,0,1;n30,0,9;b30,0,9;k1,0,9;s1,0,1;b1,0,1;");
        dueAsk(x, 0, 0, 1 + 1, 11, 10, 21, 20);
        dueAsk(x, 0, 1, 1, 21, 20);
        dueAsk(x, 1, 0, -(9 + 62), 12, 11, 10, 24, 21, 20);
        dueAsk(x, 1, 1, 62, 24, 21, 20);
        dueAsk(x, 2, 0, 9 + 32 - 1000, 11, 10, 22, 21, 20);
        dueAsk(x, 2, 1, 32 - 1000, 22, 21, 20);
        dueAsk(x, 3, 0, -91, 13, 10);
        dueAsk(x, 3, 1, 3 + 91, 23, 20, 13, 10);
        dueAsk(x, 4, 0, -198, 14, 13, 10);
        dueAsk(x, 4, 1, 4 + 198, 23, 20, 14, 13, 10);
        dueAsk(x, 5, 0, 1 + 6 - 1000, 11, 10, 22, 21, 20);
        dueAsk(x, 5, 1, 6 - 1000, 22, 21, 20);
        x.train(1, 29);
        dueAsk(x, 1, 0, -(9 + 4), 12, 11, 10, 24, 21, 20);
    }

    private static void dueAsk(SignDuty x, int gesture, int what, int answer, int... bodies) {
        String call = "ask " + gesture + " " + what;
        check.due(call, x.ask(gesture, what), answer);
        for (int i = 0; i < 7; i++) {
            check.due(call + " trace " + i, x.trace(i), i < bodies.length ? bodies[i] : Check.NONE);
        }
    }

    /** "THE TRACE (the first 16)": no ask begins more than six, so that all of them are there. */
    private static void traceOfSixteen() {
        SignDuty x = Check.cityOf("d1;n1,0,1;");
        x.ask(0, 0);
        int[] due = {12, 11, 10, 24, 21, 20};
        for (int i = -2; i <= 18; i++) {
            check.due("trace " + i, x.trace(i), i >= 0 && i < 6 ? due[i] : Check.NONE);
        }
        check.due("the least", x.trace(Integer.MIN_VALUE), Check.NONE);
        check.due("the most", x.trace(Integer.MAX_VALUE), Check.NONE);
        check.due("it is not used up", x.trace(0), 12);
    }

    /** "THE TRACE is empty ahead of it"; "BAD (THE TRACE stays then)". */
    private static void traceIsEmptyAhead() {
        SignDuty x = Check.cityOf("d1;n1,0,1;k1,0,1;");
        x.ask(0, 0);
        for (int wrong : new int[] {-1, 2, Integer.MIN_VALUE, Integer.MAX_VALUE}) {
            check.due("BAD", x.ask(wrong, 0), Check.BAD);
            check.due("BAD", x.ask(0, wrong), Check.BAD);
            check.due("stays", x.trace(0), 12);
            check.due("all of it", x.trace(5), 20);
        }
        x.ask(1, 0);
        check.due("of the latest alone", x.trace(0), 13);
        check.due("two", x.trace(1), 10);
        check.due("no third", x.trace(2), Check.NONE);
        for (int n = 0; n < 20; n++) {
            x.ask(0, 0);
        }
        check.due("as by one", x.trace(0), 12);
        check.due("as by one", x.trace(6), Check.NONE);
        Check.feed(x, "d1;").city();
        check.due("stays by a city", x.trace(5), 20);
        check.due("BAD then", x.ask(0, 0), Check.BAD);
        check.due("stays", x.trace(5), 20);
    }

    private static void counts() {
        SignDuty x = Check.cityOf("d9;" + "r0,9;".repeat(7) + "b30,0,1;".repeat(6));
        for (int row = 0; row < 8; row++) {
            check.due("ROWS", x.count(0), row);
            x.row(row, 0, 0);
        }
        check.due("ROWS", x.count(0), 8);
        for (int street = 0; street < 7; street++) {
            check.due("KNOWN", x.count(5), street);
            check.due("ACTS", x.count(6), street);
            x.know(street, 1);
        }
        int[] due = {8, 7, 6, 0, 9, 7, 7, 0};
        for (int what = 0; what < 8; what++) {
            check.due("count " + what, x.count(what), due[what]);
        }
        check.bounds("count", 0, 7, x::count);
        x.make(0, 0);
        check.due("PAID", x.count(3), 238);
        x.feed(0);
        check.due("bytes", x.count(7), 1);
    }

    /** "Of the latest call with a ROW, or as(), that was not BAD, STATE, FULL: the number of its FINDING; 0". */
    private static void statusOfEachCall() {
        SignDuty x = Check.cityOf("d1;r0,0;w1,0,1;");
        x.row(0, 2, 4);
        x.row(1, 1, 4);
        int[] found = {x.row(2, 0, -1), x.set(2, 0, 0), x.set(0, 4, 0), x.copy(0, 0, 1, 0, 1), x.as(0, 2)};
        int[] due = {Check.SIZE, Check.NULL, Check.PLACE, Check.STORE, Check.KIND};
        for (int k = 0; k < due.length; k++) {
            check.due("found", found[k], due[k]);
        }
        for (int which = 0; which < 8; which++) {
            x.row(2, 0, -1);
            check.due("of SIZE", x.status(), 4);
            check.due("well " + which, well(x, which) < 0 ? 1 : 0, 0);
            check.due("0 then", x.status(), 0);
            x.drop(7);
            check.due("of NULL", x.status(), 1);
            check.due("refused " + which, refused(x, which), Check.BAD);
            check.due("stays", x.status(), 1);
        }
    }

    private static int well(SignDuty x, int which) {
        switch (which) {
            case 0: return x.row(3, 0, 1);
            case 1: return x.set(0, 0, 0);
            case 2: return x.copy(0, 0, 0, 1, 1);
            case 3: return x.drop(3);
            case 4: return x.thread(0, 0, 1);
            case 5: return x.inches(0, 0, 0, 1);
            case 6: return x.sorts(0, 0, 0, 1);
            default: return x.as(0, 1);
        }
    }

    private static int refused(SignDuty x, int which) {
        switch (which) {
            case 0: return x.row(3, 0, 41);
            case 1: return x.set(8, 0, 0);
            case 2: return x.copy(0, 0, 8, 1, 1);
            case 3: return x.drop(8);
            case 4: return x.thread(0, 0, 13);
            case 5: return x.inches(1, 0, 0, 1);
            case 6: return x.sorts(1, 0, 0, 1);
            default: return x.as(1, 1);
        }
    }

    /** Calls without a ROW tell nothing to it, well or refused; status() itself does not either. */
    private static void statusOfOtherCalls() {
        SignDuty x = Check.cityOf("d1;r0,0;w1,0,1;");
        x.as(0, 5);
        int[] answers = {x.feed('d'), x.feed(-1), x.city(), x.fault(), x.make(0, 0), x.make(0, 1), x.dim(0, 0), x.train(0, 1),
            x.know(0, 1), x.know(0, 1), x.undo(), x.gesture(0, 0), x.street(0, 0), x.duty(0, 0), x.tell(0, 0, 0, 9, -1),
            x.shut(0), x.shut(4), x.quick(0, 0, 0), x.saved(0), x.worst(0, 0), x.tremble(0, 0, 0, 0, 0, 0), x.image(0),
            x.restore(0), x.restore(1), x.kind(0), x.ask(0, 0), x.trace(0), x.count(0), x.status()};
        check.due("status of KIND stays", answers[answers.length - 1], 3);
        check.due("and again", x.status(), 3);
        Check.feed(x, "d1;").city();
        check.due("by a CITY, too", x.status(), 3);
    }

    /** Six GESTURES of each sort: the numbers 0 to 5, by as() and MARK. */
    private static void sixOfAKind() {
        for (int sort = 0; sort < 5; sort++) {
            SignDuty x = Check.cityOf("d1;" + (SORTS.charAt(sort) + "1,0,1;").repeat(6));
            for (int gesture = 0; gesture < 6; gesture++) {
                check.due("as GESTURE", x.as(gesture, 0), gesture);
                check.due("as itself", x.as(gesture, sort + 1), gesture);
                check.due("kind", x.kind(gesture), sort + 1);
                int[] marks = {gesture + 1, 2 * (gesture + 1), gesture + 1 - 1000, gesture + 99, gesture + 198};
                check.due("MARK", x.ask(gesture, 1), marks[sort]);
            }
        }
    }
}
