import java.util.ArrayList;
import java.util.List;

/** All that can be found out about an object, but status(): the object is used up by it. */
final class Look {
    private final List<Integer> answers = new ArrayList<>();
    private final SignDuty x;

    private Look(SignDuty x) {
        this.x = x;
    }

    static List<Integer> at(SignDuty x) {
        Look look = new Look(x);
        look.lasting();
        look.rows();
        look.city();
        look.acts();
        look.images();
        look.tape();
        return look.answers;
    }

    private void lasting() {
        answers.add(x.fault());
        for (int what = 0; what < 8; what++) {
            answers.add(x.count(what));
        }
        for (int i = 0; i < 8; i++) {
            answers.add(x.trace(i));
        }
    }

    /** Items as far as threads tell them: whether each pair is a STREET, and which INCHES owe so much there. */
    private void rows() {
        for (int row = 0; row < 8; row++) {
            int first = x.inches(0, row, 0, 1);
            answers.add(first);
            for (int i = 1; i < 4 && first != Check.NULL; i++) {
                answers.add(x.inches(0, row, i, 1));
            }
            answers.add(x.drop(row));
        }
    }

    private void city() {
        for (int gesture = 0; gesture < x.count(2); gesture++) {
            for (int what = 0; what < 5; what++) {
                answers.add(x.gesture(gesture, what));
            }
            answers.add(x.kind(gesture));
        }
        for (int street = 0; street < x.count(1); street++) {
            for (int what = 0; what < 4; what++) {
                answers.add(x.street(street, what));
            }
        }
        answers.add(x.count(3));
        answers.add(x.count(4));
    }

    private void acts() {
        for (int left = x.count(6); left >= 0; left--) {
            answers.add(x.undo());
            answers.add(x.count(3));
            answers.add(x.count(5));
            answers.add(x.gesture(0, 0));
            answers.add(x.gesture(0, 4));
            answers.add(x.street(0, 0));
        }
    }

    private void images() {
        for (int k = 0; k < 2; k++) {
            answers.add(x.restore(k));
            city();
        }
    }

    private void tape() {
        answers.add(x.city());
        answers.add(x.fault());
        city();
    }
}
