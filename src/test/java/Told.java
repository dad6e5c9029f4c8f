import java.util.ArrayList;
import java.util.List;

/** All that an object tells without being changed, to see that a refused call changes nothing. */
final class Told {
    private Told() { }

    static List<Integer> by(RiverText x) {
        List<Integer> told = new ArrayList<>();
        for (int what = 0; what <= 6; what++) {
            told.add(x.count(what));
            told.add(x.now(what));
        }
        for (int i = 0; i < 4; i++) {
            told.add(x.booked(i));
            told.add(x.saidAt(i));
            told.add(x.said(i - 1));
        }
        told.add(x.fault());
        told.add(x.stones());
        land(x, told);
        people(x, told);
        return told;
    }

    private static void land(RiverText x, List<Integer> told) {
        for (int t = 0; t < x.count(0); t++) {
            told.add(x.term(t));
        }
        for (int r = 0; r < x.count(1); r++) {
            for (int what = 0; what < 5; what++) {
                told.add(x.reach(r, what));
            }
            for (int place = 0; place < x.reach(r, 0); place++) {
                told.add(x.at(r, place));
            }
        }
    }

    private static void people(RiverText x, List<Integer> told) {
        for (int e = 0; e < x.count(2); e++) {
            for (int what = 0; what < 5; what++) {
                told.add(x.editor(e, what));
                told.add(x.makes(e, what));
            }
        }
        for (int t = 0; t < x.count(4); t++) {
            for (int what = 0; what < 6; what++) {
                told.add(x.town(t, what));
            }
            told.add(x.sense(t));
            told.add(x.sayings(t));
            told.add(x.well(t, 0));
            told.add(x.well(t, x.now(0) - 1));
        }
    }

    static void alike(String what, List<Integer> got, List<Integer> due) {
        Due.same(what + ": how much is told", got.size(), due.size());
        for (int i = 0; i < Math.min(got.size(), due.size()); i++) {
            Due.same(what + ": what is told (" + i + ")", got.get(i), due.get(i));
        }
    }

    /** Nothing is told otherwise behind these calls. */
    static void stays(String what, RiverText x, Runnable calls) {
        List<Integer> before = by(x);
        calls.run();
        alike(what, by(x), before);
    }
}
