import java.util.List;
import java.util.function.ToIntFunction;

/**
 * "What is refused, or found, changes nothing but status()"; "FORETOLD (nothing changes)". Two objects are led the same
 * way, one of them is then asked, and nothing that is found out of them later may differ.
 */
public final class StaysTest {
    private static final String SMALL = "d3;r0,5;r9,3;w20,0,4;k8,0,6;s15,1,3;";

    private static final Check check = new Check();

    public static void main(String[] args) {
        refusedRows();
        foundInRows();
        refusedActs();
        refusedForNoCity();
        refusedByPurse();
        refusedWithoutActs();
        refusedThreads();
        refusedForetold();
        refusedImagesAndAsks();
        fullTape();
        foretold();
        looks();
        faultyTexts();
        check.end();
    }

    /** Some of everything: a fault, a city, images, acts of each sort, rows of each lane, a trace, bytes on the tape. */
    private static SignDuty led() {
        return Check.feed(ledOffTheTape(), "d2;r1,1;b7,1,1;");
    }

    private static SignDuty ledOffTheTape() {
        SignDuty x = Check.feed(new SignDuty(), "d0");
        x.city();
        Check.feed(x, SMALL).city();
        x.image(0);
        x.know(0, 1);
        x.make(0, 0);
        x.dim(0, 3);
        x.image(1);
        x.train(0, 5);
        x.make(0, 1);
        x.know(1, 1);
        for (int lane = 0; lane < 3; lane++) {
            x.row(lane, lane, 4);
            x.set(lane, 1, 10 + lane);
            x.set(lane, 2, 1);
            x.set(lane, 3, 24);
        }
        x.ask(2, 0);
        return x;
    }

    private static SignDuty fresh() {
        SignDuty x = new SignDuty();
        x.row(0, 2, 4);
        return Check.feed(x, "d2;r1,1;");
    }

    private static SignDuty almostPaidOut() {
        SignDuty x = Check.cityOf("d9;r0,9;b30,0,1;");
        for (int i = 0; i < 209; i++) {
            x.make(0, 0);
        }
        return x;
    }

    private static void refusedRows() {
        stays("row of 8", Check.BAD, x -> x.row(8, 0, 1));
        stays("row of lane 3", Check.BAD, x -> x.row(0, 3, 1));
        stays("row of 41", Check.BAD, x -> x.row(0, 0, 41));
        stays("set of -1", Check.BAD, x -> x.set(-1, 0, 1));
        stays("copy of 8", Check.BAD, x -> x.copy(8, 0, 0, 0, 1));
        stays("copy to 8", Check.BAD, x -> x.copy(0, 0, 8, 0, 1));
        stays("drop of 8", Check.BAD, x -> x.drop(8));
    }

    private static void foundInRows() {
        stays("row of -1", Check.SIZE, x -> x.row(0, 0, -1));
        stays("row of the least int", Check.SIZE, x -> x.row(5, 2, Integer.MIN_VALUE));
        stays("set of none", Check.NULL, x -> x.set(3, 0, 1));
        stays("set at -1", Check.PLACE, x -> x.set(0, -1, 1));
        stays("set at 4", Check.PLACE, x -> x.set(0, 4, 1));
        stays("copy of none", Check.NULL, x -> x.copy(3, 0, 0, 0, 1));
        stays("copy to none", Check.NULL, x -> x.copy(0, 0, 3, 0, 1));
        stays("copy to another lane", Check.STORE, x -> x.copy(0, 0, 1, 0, 1));
        stays("copy beyond", Check.PLACE, x -> x.copy(0, 1, 0, 0, 4));
        stays("copy onto what is beyond", Check.PLACE, x -> x.copy(0, 0, 0, 2, 3));
        stays("copy of -1", Check.PLACE, x -> x.copy(0, 1, 0, 2, -1));
        stays("drop of none", Check.NULL, x -> x.drop(3));
    }

    private static void refusedActs() {
        stays("feed 256", Check.BAD, x -> x.feed(256));
        stays("make of 3", Check.BAD, x -> x.make(3, 0));
        stays("make in 2", Check.BAD, x -> x.make(0, 2));
        stays("make, not SEEN", Check.STATE, x -> x.make(0, 1), () -> dimmed(30));
        stays("dim of 2", Check.BAD, x -> x.dim(2, 1));
        stays("dim to 31", Check.BAD, x -> x.dim(0, 31));
        stays("train of 3", Check.BAD, x -> x.train(3, 1));
        stays("train by 0", Check.BAD, x -> x.train(0, 0));
        stays("train by 30", Check.BAD, x -> x.train(0, 30));
        stays("train by all", Check.STATE, x -> x.train(0, 15));
        stays("know of 2", Check.BAD, x -> x.know(2, 1));
        stays("know 2", Check.BAD, x -> x.know(0, 2));
        stays("know again", Check.STATE, x -> x.know(0, 1));
        stays("know not again", Check.STATE, x -> x.know(1, 0), StaysTest::unknown);
    }

    private static SignDuty dimmed(int dim) {
        SignDuty x = led();
        x.dim(1, dim);
        return x;
    }

    private static SignDuty unknown() {
        SignDuty x = led();
        x.know(1, 0);
        return x;
    }

    private static void refusedForNoCity() {
        stays("make", Check.BAD, x -> x.make(0, 0), StaysTest::fresh);
        stays("dim", Check.BAD, x -> x.dim(0, 1), StaysTest::fresh);
        stays("train", Check.BAD, x -> x.train(0, 1), StaysTest::fresh);
        stays("know", Check.BAD, x -> x.know(0, 1), StaysTest::fresh);
        stays("undo", Check.STATE, x -> x.undo(), StaysTest::fresh);
        stays("image", Check.STATE, x -> x.image(0), StaysTest::fresh);
        stays("restore", Check.STATE, x -> x.restore(1), StaysTest::fresh);
        stays("thread", Check.STATE, x -> x.thread(0, 0, 1), StaysTest::fresh);
        stays("thread of none", Check.STATE, x -> x.thread(3, 0, 1), StaysTest::fresh);
        stays("inches", Check.BAD, x -> x.inches(0, 3, 0, 1), StaysTest::fresh);
        stays("sorts", Check.BAD, x -> x.sorts(0, 3, 0, 1), StaysTest::fresh);
        stays("shut", Check.STATE, x -> x.shut(0), StaysTest::fresh);
        stays("as", Check.BAD, x -> x.as(0, 0), StaysTest::fresh);
        stays("ask", Check.BAD, x -> x.ask(0, 0), StaysTest::fresh);
    }

    private static void refusedByPurse() {
        stays("make, too dear", Check.FULL, x -> x.make(0, 0), StaysTest::almostPaidOut);
    }

    private static void refusedWithoutActs() {
        stays("undo of none", Check.STATE, x -> x.undo(), () -> Check.cityOf(SMALL));
    }

    private static void refusedThreads() {
        stays("thread of 8", Check.BAD, x -> x.thread(8, 0, 1));
        stays("thread of 0 pairs", Check.BAD, x -> x.thread(0, 0, 0));
        stays("thread of none", Check.NULL, x -> x.thread(3, 0, 1));
        stays("thread beyond", Check.PLACE, x -> x.thread(0, 3, 1));
        stays("thread of no STREET", Check.BAD, x -> x.thread(0, 1, 1));
        stays("inches of 8", Check.BAD, x -> x.inches(0, 8, 0, 1));
        stays("inches of none", Check.NULL, x -> x.inches(0, 3, 0, 1));
        stays("inches beyond", Check.PLACE, x -> x.inches(0, 0, 3, 1));
        stays("inches of no STREET", Check.BAD, x -> x.inches(0, 0, 1, 1));
        stays("sorts of 8", Check.BAD, x -> x.sorts(0, 8, 0, 1));
        stays("sorts of none", Check.NULL, x -> x.sorts(0, 3, 0, 1));
        stays("sorts beyond", Check.PLACE, x -> x.sorts(0, 0, 3, 1));
        stays("sorts of no STREET", Check.BAD, x -> x.sorts(0, 0, 1, 1));
    }

    private static void refusedForetold() {
        stays("tell", Check.BAD, x -> x.tell(0, 1, 0, 9, -1));
        stays("tell, too dim", Check.NONE, x -> x.tell(0, 0, 1, 9, -1), () -> dimmed(30));
        stays("shut", Check.BAD, x -> x.shut(4));
        stays("quick", Check.BAD, x -> x.quick(0, 1, 0));
        stays("quick, not meant", Check.NONE, x -> x.quick(3, 0, 1));
        stays("saved", Check.BAD, x -> x.saved(3));
        stays("worst", Check.BAD, x -> x.worst(0, 2));
        stays("tremble", Check.BAD, x -> x.tremble(0, 1, 0, 0, 0, 0));
        stays("gesture", Check.BAD, x -> x.gesture(0, 5));
        stays("street", Check.BAD, x -> x.street(0, 4));
        stays("duty", Check.BAD, x -> x.duty(0, 2));
        stays("count", Check.BAD, x -> x.count(8));
        stays("kind", Check.BAD, x -> x.kind(3));
        stays("trace", Check.NONE, x -> x.trace(16));
    }

    private static void refusedImagesAndAsks() {
        stays("image 2", Check.BAD, x -> x.image(2));
        stays("restore 2", Check.BAD, x -> x.restore(2));
        stays("restore of none kept", Check.STATE, x -> x.restore(0), () -> Check.cityOf(SMALL));
        stays("as of 3", Check.BAD, x -> x.as(3, 0));
        stays("as of kind 6", Check.BAD, x -> x.as(0, 6));
        stays("as of another", Check.KIND, x -> x.as(0, 2));
        stays("ask of 3", Check.BAD, x -> x.ask(3, 0));
        stays("ask 2", Check.BAD, x -> x.ask(0, 2));
    }

    private static void fullTape() {
        stays("feed 121", Check.FULL, x -> x.feed('d'), () -> {
            SignDuty x = Check.cityOf(SMALL);
            for (int i = 0; i < 120; i++) {
                x.feed("d1;r".charAt(i % 4));
            }
            return x;
        });
    }

    private static void foretold() {
        stays("tell", 1, x -> x.tell(0, 0, 0, 99, 0));
        stays("tell for", 0, x -> x.tell(0, 0, 1, 99, -1));
        stays("shut 0", 0, x -> x.shut(0));
        stays("quick all", 8, x -> x.quick(0, 0, 1));
        stays("saved", 0, x -> x.saved(0), StaysTest::led);
        stays("worst", 0, x -> x.worst(0, 0));
        stays("tremble", 1, x -> x.tremble(0, 0, 1, 9999, 3, 1));
        setsStatusAlone("thread", 1, x -> x.thread(2, 2, 1));
        setsStatusAlone("inches", 1 << 14, x -> x.inches(0, 2, 2, 1));
        setsStatusAlone("sorts", 1 << 1, x -> x.sorts(0, 2, 2, 1));
    }

    private static void looks() {
        stays("gesture", 15, x -> x.gesture(0, 0));
        stays("street", 3, x -> x.street(0, 0));
        stays("duty", 26, x -> x.duty(0, 0));
        stays("fault", 2, x -> x.fault());
        stays("kind", 1, x -> x.kind(0));
        stays("trace", 14, x -> x.trace(0));
        stays("count", 3, x -> x.count(0));
        setsStatusAlone("as", 2, x -> x.as(2, 4));
        setsStatusAlone("set as it is", 1, x -> x.set(0, 2, 1));
        setsStatusAlone("copy onto itself", 4, x -> x.copy(0, 0, 0, 0, 4));
        setsStatusAlone("copy of nothing", 0, x -> x.copy(0, 0, 0, 4, 0));
    }

    /** Of a text with a FAULT nothing stays but what fault() tells, and that the tape is empty. */
    private static void faultyTexts() {
        leavesAll("", 0, 1);
        leavesAll("d5;r7,7;w7,3,7;k7,3,7;!", 22, 1);
        leavesAll("d5;r31,7;w7,3,7;", 4, 2);
        leavesAll("d5;r7,7;w7,3,7;w7,3,10;", 20, 2);
        leavesAll("d5;r7,7;r7,7;r7,7;r7,7;r7,7;r7,7;r7,7;r7,7;", 38, 3);
        leavesAll("d5;w7,3,7;n7,3,7;b7,3,7;k7,3,7;s7,3,7;w7,3,7;w7,3,7;", 45, 3);
    }

    private static void leavesAll(String text, int place, int number) {
        SignDuty x = withStatus(ledOffTheTape(), 4);
        check.due("read " + text, Check.feed(x, text).city(), -1000100 - place);
        check.due("fault of " + text, x.fault(), number);
        check.due("status after " + text, x.status(), 4);
        List<Integer> seen = Look.at(x);
        List<Integer> due = Look.at(withStatus(ledOffTheTape(), 4));
        check.due("fault tells " + text, seen.get(0), number);
        List<Integer> seenElse = seen.subList(1, seen.size());
        check.due("nothing else changes by " + text, seenElse.equals(due.subList(1, due.size())) ? 1 : 0, 1);
    }

    private interface Leading {
        SignDuty lead();
    }

    private static void stays(String call, int want, ToIntFunction<SignDuty> asked) {
        stays(call, want, asked, StaysTest::led);
    }

    private static void stays(String call, int want, ToIntFunction<SignDuty> asked, Leading leading) {
        boolean isFound = want <= Check.NULL && want >= Check.STORE;
        for (int status : new int[] {1, 4}) {
            SignDuty x = withStatus(leading.lead(), status);
            check.due(call, asked.applyAsInt(x), want);
            check.due("status after " + call, x.status(), isFound ? -1000010 - want : status);
            sameAs(call, x, withStatus(leading.lead(), status));
        }
    }

    private static void setsStatusAlone(String call, int want, ToIntFunction<SignDuty> asked) {
        SignDuty x = withStatus(led(), 4);
        check.due(call, asked.applyAsInt(x), want);
        check.due("status after " + call, x.status(), 0);
        sameAs(call, x, withStatus(led(), 4));
    }

    private static SignDuty withStatus(SignDuty x, int status) {
        check.due("led to status " + status, status == 1 ? x.drop(7) : x.row(7, 0, -1), -1000010 - status);
        return x;
    }

    private static void sameAs(String call, SignDuty x, SignDuty twin) {
        check.due("nothing else changes by " + call, Look.at(x).equals(Look.at(twin)) ? 1 : 0, 1);
    }
}
