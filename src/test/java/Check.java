import java.util.function.IntUnaryOperator;

/** Counts the answers that are not as due, and makes cities for the tests. */
final class Check {
    static final int NULL = -1000011, PLACE = -1000012, KIND = -1000013, SIZE = -1000014, STORE = -1000015;
    static final int NONE = SignDuty.NONE, BAD = SignDuty.BAD, STATE = SignDuty.STATE, FULL = SignDuty.FULL;

    /** Four streets, a gesture of each kind and one nod more. */
    static final String TOWN = "d3;r0,0;r12,5;r20,9;r7,3;w20,0,4;n12,0,2;b30,1,9;k8,0,6;s15,1,3;n7,2,1;";

    private static final int[] WILD = {Integer.MIN_VALUE, -1000000, -2, -1, 1000000, Integer.MAX_VALUE};

    private int wrong = 0;
    private int looked = 0;

    void due(String call, long got, long want) {
        looked++;
        if (got != want) {
            wrong++;
            System.out.println(call + " answered " + got + ", due is " + want);
        }
    }

    /** An argument: from least to most it is taken; one step beyond, and at the ends of int, it is BAD. */
    void bounds(String call, int least, int most, IntUnaryOperator asked) {
        for (int n : new int[] {least - 1, most + 1, Integer.MIN_VALUE, Integer.MAX_VALUE}) {
            due(call + " by " + n, asked.applyAsInt(n), BAD);
        }
        for (int n : new int[] {least, least + 1, most - 1, most}) {
            due(call + " takes " + n, asked.applyAsInt(n) == BAD ? 1 : 0, 0);
        }
    }

    /** Numbers that no call takes, whatever it takes: the least and greatest, and others far off. */
    static int[] wild() {
        return WILD.clone();
    }

    static SignDuty feed(SignDuty x, String text) {
        for (int i = 0; i < text.length(); i++) {
            x.feed(text.charAt(i));
        }
        return x;
    }

    static SignDuty cityOf(String text) {
        SignDuty x = feed(new SignDuty(), text);
        if (x.city() < 0) {
            throw new IllegalStateException("no city: " + text);
        }
        return x;
    }

    /** A row of ints on the object, from item 0 on. */
    static void lay(SignDuty x, int row, int... items) {
        x.row(row, 2, items.length);
        for (int i = 0; i < items.length; i++) {
            x.set(row, i, items[i]);
        }
    }

    void end() {
        System.out.println(looked + " answers, " + wrong + " not as due");
        if (wrong != 0 || looked == 0) {
            System.exit(1);
        }
    }
}
