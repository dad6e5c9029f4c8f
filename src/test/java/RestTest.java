/** Promises 27 to 34: EDITORS at rest, what is liked, sure, when it is read, CLASHES to come, what is read unlike. */
public final class RestTest {
    private static final int NONE = Due.NONE;
    /** Both EDITORS have the TOWN t below them; each turns a into b, which t likes, or b into a. */
    private static final String TWO = "noun a;noun b;reach r 3;says r a;"
            + "editor e r 0;turn e a b;editor f r 1;turn f b a;town t r 2;taste t b;";

    public static void main(String[] args) {
        rests();
        own();
        liked();
        sure();
        most();
        when();
        clashes();
        unlike();
        Due.finish();
    }

    private static void restsAre(String what, RiverText x, int n, int... sets) {
        Due.same(what + ": how many", x.rests(n, NONE), sets.length);
        for (int k = 0; k < sets.length; k++) {
            Due.same(what + ": " + k, x.rests(n, k), sets[k]);
        }
        Due.same(what + ": no more", x.rests(n, sets.length), NONE);
    }

    private static void rests() {
        // t reads what is liked if e is awake alone: then nobody gains; with f awake e gains nothing, but f does by sleeping
        restsAre("two EDITORS", Due.in(TWO), 10, 1, 2);
        restsAre("nothing can be read in time", Due.in(TWO), 2, 0, 1, 2, 3);
        restsAre("no EDITORS", new RiverText(), 5, 0);
        // g has no TOWN of its own: it is awake or not; h strikes what v likes
        RiverText x = Due.in("noun a;reach r 2;says r a;editor g r 1;strike g a;town t r 0;taste t a;"
                + "reach q 1;says q a;editor h q 0;strike h a;town v q 0;taste v a;");
        restsAre("an EDITOR without a TOWN", x, 1, 0, 1);
        restsAre("an EDITOR without a TOWN", x, 60, 0, 1);
        x.wake(1, 0);
        restsAre("who is awake now does not count", x, 60, 0, 1);
        for (int i = 0; i < 4; i++) {
            x.days(99);
        }
        x.days(99);
        restsAre("no DAYS are left", x, 60, 0, 1, 2, 3);
        Due.same("0 DAYS", x.rests(0, NONE), NONE);
        Due.same("61 DAYS", x.rests(61, NONE), NONE);
        Due.same("61 DAYS", x.rests(61, 0), NONE);
        Due.same("no such set", x.rests(1, -2), NONE);
        Due.same("all is as it was", x.now(0), 400);
    }

    private static void own() {
        RiverText x = Due.in("reach r 5;reach q 5 into r;editor e r 1;editor f r 3;editor g q 2;editor h r 0;"
                + "town a r 4;town b r 2;town c r 2;town d q 1;town i r 0;");
        Due.same("the nearest one below", x.own(0), 1);
        Due.same("the only one below", x.own(1), 0);
        Due.same("none below on its REACH", x.own(2), NONE);
        Due.same("at its PLACE", x.own(3), 4);
        Due.same("no such EDITOR", x.own(4), NONE);
        Due.same("no such EDITOR", x.own(-1), NONE);
    }

    private static void liked() {
        RiverText x = Due.in(TWO);
        Due.same("e alone", x.liked(0, 1, 10), 8);
        Due.same("f alone", x.liked(0, 2, 10), 0);
        Due.same("both", x.liked(0, 3, 10), 0);
        Due.same("none", x.liked(0, 0, 10), 0);
        Due.same("on DAY 2", x.liked(0, 1, 3), 1);
        x.days(1);
        Due.same("from now on", x.liked(0, 1, 2), 1);
        x.wake(1, 0);
        x.days(10);
        // the b at the first two PLACES are on their way already
        Due.same("only what is read from now on", x.liked(0, 0, 9), 2);
        Due.same("60 DAYS", x.liked(0, 1, 60), 60);
        Due.same("61 DAYS", x.liked(0, 1, 61), NONE);
        Due.same("0 DAYS", x.liked(0, 1, 0), NONE);
        Due.same("no such EDITOR", x.liked(0, 4, 1), NONE);
        Due.same("no such EDITOR", x.liked(0, -1, 1), NONE);
        Due.same("no such TOWN", x.liked(1, 0, 1), NONE);
        Due.same("no such TOWN", x.liked(-1, 0, 1), NONE);
        Due.same("awake as before", x.editor(1, 2), 0);
        for (int i = 0; i < 4; i++) {
            x.days(96);
        }
        Due.same("DAYS 395 to 399", x.liked(0, 1, 60), 5);
    }

    private static void sure() {
        int[] due = {0, 0, 1, 1, 2, 2, 3, 3};
        for (int k = 1; k <= due.length; k++) {
            Due.same("sure " + k, Due.in("").sure(k), due[k - 1]);
        }
        Due.same("sure 98", new RiverText().sure(98), 48);
        Due.same("sure 99", new RiverText().sure(99), 49);
        Due.same("sure 0", new RiverText().sure(0), NONE);
        Due.same("sure 100", new RiverText().sure(100), NONE);
        Due.same("sure -1", new RiverText().sure(-1), NONE);
    }

    private static void most() {
        RiverText x = Due.in(Due.LAND);
        Due.same("all", Due.most(x, 4), 4);
        Due.same("the tape is empty then", x.count(6), 0);
        Due.same("two of three", Due.most(x, 4, 0, 4), 4);
        Due.same("half of them", Due.most(x, 4, 0), NONE);
        Due.same("half of them", Due.most(x, 4, 0, 4, 1), NONE);
        Due.same("not half of them", Due.most(x, 0, 0, 1, 1, 2), NONE);
        Due.same("none is what most are", Due.most(x, 255, 255, 4), NONE);
        Due.same("none is no TERM", Due.most(x, 255, 4, 4), 4);
        Due.same("99 bytes", Due.most(x, new int[99]), 0);
        Due.same("100 bytes", Due.most(x, new int[100]), -2);
        Due.same("no bytes", Due.most(x), -2);
        Due.same("no such TERM", Due.most(x, 0, 0, 0, 5), -2);
        Due.same("the tape is empty then", x.count(6), 0);
    }

    private static void when() {
        RiverText x = Due.in(Due.LAND);
        Due.same("ta reads old", x.when(0, Due.OLD, 2), 1);
        Due.same("not in one DAY", x.when(0, Due.OLD, 1), NONE);
        Due.same("never", x.when(0, Due.KING, 99), NONE);
        x.days(2);
        Due.same("from now on", x.when(0, Due.OLD, 99), 5);
        x.wake(0, 0);
        Due.same("ed sleeps", x.when(0, Due.KING, 99), 2);
        Due.same("100 DAYS", x.when(0, Due.OLD, 100), NONE);
        Due.same("0 DAYS", x.when(0, Due.OLD, 0), NONE);
        Due.same("no such TERM", x.when(0, 5, 9), NONE);
        Due.same("no such TERM", x.when(0, NONE, 9), NONE);
        Due.same("no such TOWN", x.when(3, 0, 9), NONE);
        Due.same("no such TOWN", x.when(-1, 0, 9), NONE);
        Due.same("all is as it was", x.now(0), 2);
        for (int i = 0; i < 4; i++) {
            x.days(99);
        }
        Due.same("DAY 398", x.when(0, Due.KING, 99), 398);
        x.days(1);
        Due.same("DAY 399 is the last one", x.when(0, Due.OLD, 99), NONE);
    }

    private static void clashes() {
        RiverText x = Due.in(Due.LAND);
        // from DAY 3 on both come to main: king, turned into fish, is like fish, the others clash
        Due.same("in 3 DAYS", x.clashes(3), 0);
        Due.same("in 8 DAYS", x.clashes(8), 3);
        x.days(8);
        Due.same("from now on", x.clashes(5), 4);
        // DAYS 8 to 106, but for each fourth of them, 11 to 103
        Due.same("99 DAYS", x.clashes(99), 99 - 24);
        x.wake(0, 0);
        Due.same("ed sleeps, but what was turned is on its way", x.clashes(5), 5);
        Due.same("100 DAYS", x.clashes(100), NONE);
        Due.same("0 DAYS", x.clashes(0), NONE);
        Due.same("those so far stay", x.now(2), 3);
    }

    private static void unlike() {
        RiverText x = Due.in(Due.LAND);
        Due.same("no DAYS went by", x.unlike(0, 1, 0), 0);
        x.days(8);
        // ta: - o f r d o f r, tb: - - - o f r d o
        Due.same("the same DAY", x.unlike(0, 1, 0), 7);
        Due.same("a DAY later", x.unlike(0, 1, 1), 6);
        Due.same("two DAYS later", x.unlike(0, 1, 2), 0);
        Due.same("the other way round", x.unlike(1, 0, 2), 3);
        Due.same("7 DAYS later", x.unlike(0, 1, 7), 1);
        Due.same("8 DAYS later", x.unlike(0, 1, 8), 0);
        Due.same("99 DAYS later", x.unlike(0, 1, 99), 0);
        Due.same("with itself", x.unlike(0, 0, 0), 0);
        Due.same("100 DAYS later", x.unlike(0, 1, 100), NONE);
        Due.same("ahead of it", x.unlike(0, 1, -1), NONE);
        Due.same("no such TOWN", x.unlike(3, 0, 0), NONE);
        Due.same("no such TOWN", x.unlike(0, -1, 0), NONE);
    }
}
