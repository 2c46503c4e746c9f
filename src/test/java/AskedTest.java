/** Promises 28 to 33: kinds, asks, the trace, counts, status. */
public final class AskedTest {
    private static final Check check = new Check();

    public static void main(String[] args) {
        kinds();
        takenAs();
        asks();
        traceStays();
        counts();
        statuses();
        check.end();
    }

    private static void kinds() {
        SignDuty x = Check.cityOf(Check.TOWN);
        int[] due = {1, 2, 3, 4, 5, 2};
        for (int gesture = 0; gesture < 6; gesture++) {
            check.due("kind " + gesture, x.kind(gesture), due[gesture]);
        }
        check.due("kind 6", x.kind(6), Check.BAD);
        for (int wild : Check.wild()) {
            check.due("kind " + wild, x.kind(wild), Check.BAD);
        }
    }

    private static void takenAs() {
        SignDuty x = Check.cityOf(Check.TOWN);
        int[] kinds = {1 | 2, 1 | 2 | 4, 1 | 2 | 8, 1 | 16, 1 | 16 | 32, 1 | 2 | 4};
        for (int gesture = 0; gesture < 6; gesture++) {
            for (int kind = 0; kind < 6; kind++) {
                boolean is = (kinds[gesture] >> kind & 1) == 1;
                check.due("as " + gesture + " " + kind, x.as(gesture, kind), is ? gesture : Check.KIND);
                check.due("status of it", x.status(), is ? 0 : 3);
            }
        }
        x.as(0, 2);
        check.due("kind 6", x.as(0, 6), Check.BAD);
        check.due("gesture 6", x.as(6, 0), Check.BAD);
        for (int wild : Check.wild()) {
            check.due("gesture " + wild, x.as(wild, 0), Check.BAD);
            check.due("kind " + wild, x.as(0, wild), Check.BAD);
        }
        check.due("BAD leaves status", x.status(), 3);
    }

    private static void asks() {
        SignDuty x = Check.cityOf(Check.TOWN);
        dueAsk(x, 0, 0, 4 + 20, 11, 10, 21, 20);
        dueAsk(x, 0, 1, 20, 21, 20);
        dueAsk(x, 1, 0, -(2 + 26), 12, 11, 10, 24, 21, 20);
        dueAsk(x, 1, 1, 26, 24, 21, 20);
        dueAsk(x, 2, 0, 9 + 32 - 1000, 11, 10, 22, 21, 20);
        dueAsk(x, 2, 1, 32 - 1000, 22, 21, 20);
        dueAsk(x, 3, 0, 6 - 100, 13, 10);
        dueAsk(x, 3, 1, 3 + 94, 23, 20, 13, 10);
        dueAsk(x, 4, 0, 2 * (3 - 100), 14, 13, 10);
        dueAsk(x, 4, 1, 4 + 194, 23, 20, 14, 13, 10);
        dueAsk(x, 5, 0, -(1 + 24), 12, 11, 10, 24, 21, 20);
        dueAsk(x, 5, 1, 24, 24, 21, 20);
        x.train(0, 5);
        dueAsk(x, 0, 1, 15, 21, 20);
    }

    private static void traceStays() {
        SignDuty x = Check.cityOf(Check.TOWN);
        check.due("empty at first", x.trace(0), Check.NONE);
        x.ask(1, 0);
        x.ask(3, 0);
        check.due("anew", x.trace(0), 13);
        check.due("only of the latest", x.trace(2), Check.NONE);
        check.due("ask of 6", x.ask(6, 0), Check.BAD);
        check.due("ask 2", x.ask(0, 2), Check.BAD);
        check.due("ask -1", x.ask(0, -1), Check.BAD);
        for (int wild : Check.wild()) {
            check.due("ask of " + wild, x.ask(wild, 0), Check.BAD);
            check.due("ask " + wild, x.ask(0, wild), Check.BAD);
            check.due("trace " + wild, x.trace(wild), Check.NONE);
        }
        check.due("stays by BAD", x.trace(0), 13);
        check.due("and the second", x.trace(1), 10);
        x.as(0, 0);
        x.undo();
        check.due("stays by other calls", x.trace(1), 10);
        check.due("trace 16", x.trace(16), Check.NONE);
    }

    private static void counts() {
        SignDuty x = Check.cityOf(Check.TOWN);
        x.row(0, 0, 1);
        x.row(7, 0, 1);
        x.row(3, 0, 0);
        x.make(0, 1);
        x.know(0, 1);
        x.know(3, 1);
        x.dim(0, 0);
        x.feed(1);
        x.feed(2);
        int[] due = {3, 4, 6, 70, 3, 2, 4, 2};
        for (int what = 0; what < due.length; what++) {
            check.due("count " + what, x.count(what), due[what]);
        }
        check.due("count 8", x.count(8), Check.BAD);
        for (int wild : Check.wild()) {
            check.due("count " + wild, x.count(wild), Check.BAD);
        }
    }

    /** Only calls with a ROW and as() tell anything to it, and not when they are refused. */
    private static void statuses() {
        SignDuty x = Check.cityOf(Check.TOWN);
        x.drop(0);
        x.make(0, 0);
        x.undo();
        x.feed(300);
        x.tell(0, 0, 0, 9, -1);
        x.ask(0, 0);
        x.image(0);
        x.restore(0);
        x.drop(-1);
        check.due("stays", x.status(), 1);
        check.due("asked again", x.status(), 1);
        x.as(0, 2);
        check.due("of as", x.status(), 3);
        x.row(0, 0, -1);
        check.due("of row", x.status(), 4);
        x.as(0, 1);
        check.due("none", x.status(), 0);
        SignDuty y = new SignDuty();
        y.drop(0);
        y.thread(0, 0, 1);
        check.due("STATE leaves it", y.status(), 1);
    }

    private static void dueAsk(SignDuty x, int gesture, int what, int answer, int... bodies) {
        String call = "ask " + gesture + " " + what;
        check.due(call, x.ask(gesture, what), answer);
        for (int i = 0; i < bodies.length; i++) {
            check.due(call + " trace " + i, x.trace(i), bodies[i]);
        }
        check.due(call + " trace " + bodies.length, x.trace(bodies.length), Check.NONE);
    }
}
