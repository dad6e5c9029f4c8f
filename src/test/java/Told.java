import java.util.ArrayList;
import java.util.List;

/** All that an object tells without being changed, to see that a refused call changes nothing. */
final class Told {
    private Told() { }

    static List<Integer> by(RiverText x) {
        List<Integer> told = new ArrayList<>();
        for (int what = 0; what <= 6; what++) {
            told.add(x.count(what));
            told.add(x.now(what));
        }
        for (int i = 0; i < 4; i++) {
            told.add(x.booked(i));
            told.add(x.saidAt(i));
            told.add(x.said(i - 1));
        }
        told.add(x.fault());
        told.add(x.stones());
        told.add(x.clashes(9));
        land(x, told);
        people(x, told);
        return told;
    }

    private static void land(RiverText x, List<Integer> told) {
        int terms = x.count(0);
        for (int t = 0; t < terms; t++) {
            told.add(x.term(t));
        }
        int reaches = x.count(1);
        for (int r = 0; r < reaches; r++) {
            for (int what = 0; what < 5; what++) {
                told.add(x.reach(r, what));
            }
            int length = told.get(told.size() - 5);
            for (int place = 0; place < length; place++) {
                told.add(x.at(r, place));
            }
        }
    }

    private static void people(RiverText x, List<Integer> told) {
        int editors = x.count(2);
        for (int e = 0; e < editors; e++) {
            for (int what = 0; what < 5; what++) {
                told.add(x.editor(e, what));
                told.add(x.makes(e, what));
            }
        }
        int towns = x.count(4);
        int day = x.now(0);
        for (int t = 0; t < towns; t++) {
            for (int what = 0; what < 6; what++) {
                told.add(x.town(t, what));
            }
            told.add(x.source(t));
            told.add(x.liked(t, 0, 9));
            told.add(x.sense(t));
            told.add(x.sayings(t));
            told.add(x.well(t, 0));
            told.add(x.well(t, day - 1));
        }
    }

    static void alike(String what, List<Integer> got, List<Integer> due) {
        Due.same(what + ": how much is told", got.size(), due.size());
        for (int i = 0; i < Math.min(got.size(), due.size()); i++) {
            Due.same(what + ": what is told (" + i + ")", got.get(i), due.get(i));
        }
    }

    /** Nothing is told otherwise behind these calls. */
    static void stays(String what, RiverText x, Runnable calls) {
        List<Integer> before = by(x);
        calls.run();
        alike(what, by(x), before);
    }
}
