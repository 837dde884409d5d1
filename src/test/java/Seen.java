import java.util.ArrayList;
import java.util.List;

/**
 * All that can be seen of an object, in parts, as each object may get 512 calls at most.
 * What no call tells by itself is read by changing it, so an object is looked at once.
 */
final class Seen {
    static final int PARTS = 6;
    private static final int ROWS_OF_A_PART = 75;

    private final HourStore x;
    private final List<Long> answers = new ArrayList<>();

    private Seen(HourStore x) {
        this.x = x;
    }

    static List<Long> of(HourStore x, int part) {
        Seen seen = new Seen(x);
        switch (part) {
            case 0: seen.steps(); break;
            case 1: seen.worlds(); break;
            case 2: seen.stores(); break;
            case 3: seen.bids(); break;
            default: seen.rows((part - 4) * ROWS_OF_A_PART); break;
        }
        return seen.answers;
    }

    private void steps() {
        for (int what = 0; what < 8; what++) {
            answers.add(x.count(what));
        }
        for (int t = 0; t < 36; t++) {
            answers.add(x.counts(t));
        }
        for (int t = 0; t < 36; t++) {
            answers.add(x.dark(t, 0));
            answers.add(x.keep(t, 0));
            answers.add(x.meter(t, 0));
        }
    }

    private void worlds() {
        for (int w = 0; w < 4; w++) {
            for (int t = 0; t < 36; t++) {
                answers.add(x.told(w, t));
            }
            answers.add(x.price(w, 0, 101));
            answers.add(x.price(w, 0, 1001));
            answers.add(x.lose(w));
        }
    }

    private void stores() {
        for (int s = 0; s < 4; s++) {
            for (int what = 0; what <= 10; what++) {
                answers.add(x.about(s, what));
            }
            for (int t = 0; t < 36; t++) {
                answers.add(x.planned(s, t));
            }
            answers.add(x.why(s));
            answers.add(x.voided(s));
        }
    }

    private void bids() {
        for (int left = 12; left >= 0; left--) {
            for (int w = 0; w < 4; w++) {
                answers.add(x.taken(left, w));
                for (int t = 0; t < 6; t++) {
                    answers.add(x.wanted(w, t));
                }
            }
            answers.add(x.unbid());
        }
    }

    private void rows(int from) {
        answers.add(x.check());
        for (int i = from; i < from + ROWS_OF_A_PART; i++) {
            for (int what = 0; what < 5; what++) {
                answers.add(x.row(i, what));
            }
        }
        answers.add(x.shut());
    }
}
