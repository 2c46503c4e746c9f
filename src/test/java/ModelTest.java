import java.lang.reflect.Method;
import java.util.ArrayList;
import java.util.List;

/** Runs of calls by a fixed row of numbers, each answer held against that of the model. */
public final class ModelTest {
    private static final int RUNS = 3000, CALLS = 512;
    private static final String[] NAMES = {"row", "set", "set", "copy", "drop", "feed", "city", "fault", "make", "make",
        "dim", "dim", "train", "know", "know", "undo", "gesture", "street", "duty", "tell", "tell", "tell", "shut",
        "quick", "thread", "thread", "inches", "sorts", "saved", "worst", "tremble", "tremble", "image", "restore",
        "kind", "as", "ask", "trace", "count", "status"};
    private static final int[] FAR = {Integer.MIN_VALUE, -1000000, -2, -1, 7, 8, 40, 41, 100, 255, 256, 10000, Integer.MAX_VALUE};

    private static final Check check = new Check();
    private static long seed = 20261118;

    private SignDuty x = new SignDuty();
    private Model model = new Model();
    private final StringBuilder told = new StringBuilder();
    private int calls = 0;

    public static void main(String[] args) throws Exception {
        for (int run = 0; run < RUNS; run++) {
            new ModelTest().run();
        }
        check.end();
    }

    private static int upTo(int bound) {
        seed = seed * 6364136223846793005L + 1442695040888963407L;
        return (int) ((seed >>> 33) % bound);
    }

    private void run() throws Exception {
        if (upTo(10) > 0) {
            feedText();
            call("city");
        }
        while (calls < CALLS) {
            String name = NAMES[upTo(NAMES.length)];
            if (name.equals("city") && upTo(5) > 0) {
                continue;
            }
            if (name.equals("city") && upTo(4) > 0) {
                feedText();
            }
            if (name.equals("thread") && upTo(4) > 0) {
                layThread();
            }
            call(name, arguments(name));
        }
    }

    private void feedText() throws Exception {
        String text = upTo(4) == 0 ? text() : wellText();
        for (int i = 0; i < text.length(); i++) {
            call("feed", text.charAt(i));
        }
    }

    private static int number(int least, int most) {
        return upTo(40) == 0 ? upTo(100) : least + upTo(most - least + 1);
    }

    private static String wellText() {
        StringBuilder text = new StringBuilder("d").append(1 + upTo(9)).append(';');
        int streets = upTo(8), gestures = upTo(7);
        for (int i = 0; i < streets; i++) {
            text.append('r').append(upTo(3) == 0 ? upTo(31) : upTo(12)).append(',').append(upTo(10)).append(';');
        }
        int meanings = 1 + upTo(4);
        for (int i = 0; i < gestures; i++) {
            text.append("wnbks".charAt(upTo(5))).append(1 + upTo(30)).append(',').append(upTo(meanings));
            text.append(',').append(1 + upTo(9)).append(';');
        }
        return text.toString();
    }

    /** A text that often has a fault: too many parts, numbers too great, a byte changed, cut off. */
    private static String text() {
        StringBuilder text = new StringBuilder("d").append(number(1, 9)).append(';');
        int streets = upTo(10), gestures = upTo(9);
        for (int i = 0; i < streets; i++) {
            text.append('r').append(number(0, 30)).append(',').append(number(0, 9)).append(';');
        }
        for (int i = 0; i < gestures; i++) {
            text.append("wnbks".charAt(upTo(5))).append(number(1, 30)).append(',').append(number(0, 3));
            text.append(',').append(number(1, 9)).append(';');
        }
        if (upTo(2) == 0) {
            text.setCharAt(upTo(text.length()), "dr,;w05 9x".charAt(upTo(10)));
        }
        if (upTo(3) == 0) {
            text.insert(upTo(text.length()), "dr,;w05 9x".charAt(upTo(10)));
        }
        if (upTo(4) == 0) {
            text.setLength(upTo(text.length()));
        }
        return text.toString();
    }

    /** A row that tells what a gesture owes, mostly. */
    private void layThread() throws Exception {
        int streets = model.call("count", new int[] {1});
        int gestures = model.call("count", new int[] {2});
        if (streets == 0 || gestures == 0) {
            return;
        }
        int row = upTo(8), pairs = 1 + upTo(3);
        int gesture = upTo(gestures);
        call("row", row, 1 + upTo(2), 2 * pairs + upTo(2));
        for (int pair = 0; pair < pairs; pair++) {
            int street = upTo(streets);
            int told = model.call("duty", new int[] {gesture, street}) + (upTo(12) == 0 ? 1 : 0);
            call("set", row, 2 * pair, street);
            call("set", row, 2 * pair + 1, told);
        }
        call("thread", row, 0, 1 + upTo(pairs));
        call("inches", upTo(gestures), row, 0, pairs);
        call("sorts", upTo(gestures), row, 0, pairs);
    }

    private int[] arguments(String name) {
        int[] most = switch (name) {
            case "row" -> new int[] {7, 2, 40};
            case "set" -> new int[] {7, 9, 999999};
            case "copy" -> new int[] {7, 9, 7, 9, 5};
            case "drop" -> new int[] {7};
            case "feed" -> new int[] {255};
            case "make", "duty" -> new int[] {5, 6};
            case "dim" -> new int[] {6, 30};
            case "train" -> new int[] {5, 4};
            case "know" -> new int[] {6, 1};
            case "gesture" -> new int[] {5, 4};
            case "street" -> new int[] {6, 3};
            case "tell" -> new int[] {3, 6, 6, 40, 6};
            case "quick" -> new int[] {3, 6, 6};
            case "shut" -> new int[] {3};
            case "thread" -> new int[] {7, 3, 2};
            case "inches", "sorts" -> new int[] {5, 7, 3, 2};
            case "tremble" -> new int[] {5, 6, 6, 600, 10, 1};
            case "worst", "ask" -> new int[] {5, 1};
            case "image", "restore" -> new int[] {1};
            case "as" -> new int[] {5, 5};
            case "trace", "count" -> new int[] {7};
            case "saved", "kind" -> new int[] {5};
            default -> new int[0];
        };
        for (int i = 0; i < most.length; i++) {
            most[i] = upTo(25) == 0 ? FAR[upTo(FAR.length)] : upTo(most[i] + 1);
        }
        if ((name.equals("tell") || name.equals("quick")) && most[1] > most[2]) {
            int a = most[1];
            most[1] = most[2];
            most[2] = a;
        }
        if (name.equals("tell") && upTo(3) == 0) {
            most[4] = -1;
        }
        return most;
    }

    private void call(String name, int... arguments) throws Exception {
        if (calls >= CALLS) {
            return;
        }
        calls++;
        String words = name + java.util.Arrays.toString(arguments);
        told.append(words).append(' ');
        int want = model.call(name, arguments);
        int got = (Integer) methodOf(name).invoke(x, boxed(arguments));
        if (got != want) {
            System.out.println(told);
        }
        check.due(words, got, want);
    }

    private static final List<Method> METHODS = new ArrayList<>(List.of(SignDuty.class.getDeclaredMethods()));

    private static Method methodOf(String name) {
        for (Method method : METHODS) {
            if (method.getName().equals(name)) {
                return method;
            }
        }
        throw new IllegalArgumentException(name);
    }

    private static Object[] boxed(int[] numbers) {
        Object[] all = new Object[numbers.length];
        for (int i = 0; i < numbers.length; i++) {
            all[i] = numbers[i];
        }
        return all;
    }
}
