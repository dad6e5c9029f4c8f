import java.util.Arrays;

/** The edges of promises 27 to 34: rests, own, liked, sure, most, when, clashes, unlike. */
final class EdgesOfRest {
    private static final int NONE = Due.NONE;
    private static final int[] FAR = {Integer.MIN_VALUE, -256, -3, 400, 1 << 16, 1 << 30, Integer.MAX_VALUE};
    /** t likes b; it reads b from DAY 2 on, if e turns a and f does not turn it back. */
    private static final String TWO = "noun a;noun b;reach r 3;says r a;"
            + "editor e r 0;turn e a b;editor f r 1;turn f b a;town t r 2;taste t b;";

    private EdgesOfRest() { }

    static void run() {
        wakingOrSleepingAlone();
        withoutATown();
        inNDays();
        setsNotAsTold();
        theNearestBelow();
        noneOfItsOwn();
        awakeAlone();
        likedFromNowOn();
        likedNoSuchOnes();
        howManyOtherwise();
        sureNotAsTold();
        moreThanHalf();
        mostNotAsTold();
        fromNowOn();
        whenNone();
        clashesToCome();
        clashesNotAsTold();
        unlikeThings();
        unlikeNoSuchOnes();
    }

    private static void restsAre(String what, RiverText x, int n, int... sets) {
        Due.same(what + ": how many", x.rests(n, NONE), sets.length);
        for (int k = 0; k < sets.length; k++) {
            Due.same(what + ": " + k, x.rests(n, k), sets[k]);
        }
        Due.same(what + ": no more", x.rests(n, sets.length), NONE);
    }

    private static void wakingOrSleepingAlone() {
        Due.promise(27, "has more liked by that TOWN in n DAYS from now by waking or sleeping alone.");
        restsAre("who is not liked alone", Due.in(TWO), 10, 1, 2);
        RiverText x = Due.in(TWO);
        x.wake(0, 0);
        x.wake(1, 0);
        restsAre("who is awake now is asleep then", x, 10, 1, 2);
        // neither of g and h can do it alone: both turn a into b, b into c, which is liked
        restsAre("by both alone", Due.in("noun a;noun b;noun c;reach r 3;says r a;editor g r 0;turn g a b;"
                + "editor h r 1;turn h b c;town t r 2;taste t c;"), 9, 0, 3);
        restsAre("no more is no more", Due.in("noun a;reach r 1;says r a;editor e r 0;town t r 0;taste t a;"), 9, 0, 1);
        restsAre("asleep", Due.in("noun a;reach r 1;says r a;editor e r 0;strike e a;town t r 0;taste t a;"), 9, 0);
        restsAre("awake", Due.in("noun a;noun b;reach r 1;says r a;editor e r 0;turn e a b;town t r 0;taste t b;"), 9, 1);
        restsAre("six, each with a TOWN of its own", Due.in(six(true)), 9, 63);
        Due.same("all ways of six", Due.in(six(false)).rests(1, NONE), 64);
        Due.same("the last of them", Due.in(six(false)).rests(1, 63), 63);
    }

    private static String six(boolean tastes) {
        String text = "noun a;noun b;";
        for (char c = 'c'; c <= 'h'; c++) {
            text += "reach " + c + " 1;says " + c + " a;editor e" + c + " " + c + " 0;turn e" + c + " a b;"
                    + "town t" + c + " " + c + " 0;" + (tastes ? "taste t" + c + " b;" : "");
        }
        return text;
    }

    private static void withoutATown() {
        Due.promise(27, "none of those that have a TOWN of their own");
        // g is behind the TOWN; what it does is not liked, but by none of its own
        RiverText x = Due.in("noun a;reach z 2;reach r 2 into z;says r a;editor g r 1;strike g a;town t r 0;taste t a;"
                + "town u z 1;taste u a;");
        restsAre("of another REACH", x, 60, 0, 1);
        restsAre("no EDITORS", Due.in("noun a;reach r 1;says r a;town t r 0;taste t a;"), 5, 0);
        restsAre("no COUNTRY", new RiverText(), 5, 0);
    }

    private static void inNDays() {
        Due.promise(27, "REST in n (1 to 60) DAYS");
        restsAre("1 DAY", Due.in(TWO), 1, 0, 1, 2, 3);
        restsAre("b can't be read in 2 DAYS", Due.in(TWO), 2, 0, 1, 2, 3);
        restsAre("but in 3", Due.in(TWO), 3, 1, 2);
        restsAre("60 DAYS", Due.in(TWO), 60, 1, 2);
        String far = "noun a;noun b;reach m 9;";
        for (char c = 'n'; c <= 's'; c++) {
            far += "reach " + c + " 9 into " + (char) (c - 1) + ";";
        }
        far += "says s a;editor e m 0;turn e a b;town t m 5;taste t b;";
        // a comes to t on DAY 59, turned on DAY 54
        restsAre("on the last one of 60", Due.in(far), 60, 1);
        restsAre("not in 59", Due.in(far), 59, 0, 1);
        RiverText x = Due.in(TWO);
        for (int i = 0; i < 4; i++) {
            x.days(99);
        }
        x.days(1);
        restsAre("3 DAYS are left", x, 60, 1);
    }

    private static void setsNotAsTold() {
        Due.promise(27, "how many sets (k NONE), or the k-th (rising). NONE: none such, not as told.");
        RiverText x = Due.in(TWO);
        Due.same("rests(3, 2)", x.rests(3, 2), NONE);
        Due.same("rests(3, -2)", x.rests(3, -2), NONE);
        for (int n : new int[] {0, 61, -1, 99}) {
            Due.same("rests(" + n + ", NONE)", x.rests(n, NONE), NONE);
            Due.same("rests(" + n + ", 0)", x.rests(n, 0), NONE);
        }
        for (int far : FAR) {
            Due.same("rests(" + far + ", NONE)", x.rests(far, NONE), NONE);
            Due.same("rests(3, " + far + ")", x.rests(3, far), NONE);
        }
        Due.same("all EDITORS are as they were", x.editor(0, 2) + x.editor(1, 2), 2);
        Due.same("no DAY went by", x.now(0), 0);
    }

    private static void theNearestBelow() {
        Due.promise(28, "(that at its PLACE, else the nearest one below it on its REACH; of two at one PLACE the first)");
        RiverText x = Due.in("reach q 9;reach r 9 into q;editor e r 0;editor f r 3;editor g r 4;editor h r 8;editor i q 0;"
                + "town a r 8;town b r 4;town c r 4;town d r 3;town j q 8;town k r 2;");
        int[] due = {5, 3, 1, 0, 4};
        for (int e = 0; e < due.length; e++) {
            Due.same("own(" + e + ")", x.own(e), due[e]);
        }
    }

    private static void noneOfItsOwn() {
        Due.promise(28, "NONE: none, no such one.");
        RiverText x = Due.in("reach q 2;reach r 9 into q;editor e r 8;editor f q 1;town a r 7;town b q 0;");
        Due.same("none below it on its REACH", x.own(0), NONE);
        Due.same("none below it", x.own(1), NONE);
        Due.same("own(2)", x.own(2), NONE);
        Due.same("own(-1)", x.own(-1), NONE);
        for (int e : FAR) {
            Due.same("own(" + e + ")", x.own(e), NONE);
        }
    }

    private static void awakeAlone() {
        Due.promise(29, "if these EDITORS (bits) are awake alone;");
        RiverText x = Due.in(TWO);
        int[] due = {0, 8, 0, 0};
        for (int i = 0; i < 2; i++) {
            for (int set = 0; set < 4; set++) {
                Due.same("liked(0, " + set + ", 10)", x.liked(0, set, 10), due[set]);
            }
            x.wake(0, 0);
        }
        Due.same("e sleeps as before", x.editor(0, 2), 0);
        Due.same("f is awake as before", x.editor(1, 2), 1);
        RiverText y = Due.in(six(true));
        for (int t = 0; t < 6; t++) {
            Due.same("all but that one", y.liked(t, 63 ^ 1 << t, 7), 0);
            Due.same("that one", y.liked(t, 1 << t, 7), 7);
            Due.same("all", y.liked(t, 63, 7), 7);
        }
    }

    private static void likedFromNowOn() {
        Due.promise(29, "TERMS liked by a TOWN in n (1 to 60) DAYS from now");
        RiverText x = Due.in(TWO);
        Due.same("1 DAY", x.liked(0, 1, 1), 0);
        Due.same("2 DAYS", x.liked(0, 1, 2), 0);
        Due.same("3 DAYS", x.liked(0, 1, 3), 1);
        Due.same("60 DAYS", x.liked(0, 1, 60), 58);
        x.wake(1, 0);
        x.days(50);
        Due.same("what was liked so far is none of them", x.liked(0, 1, 1), 1);
        Due.same("what is on its way", x.liked(0, 0, 60), 2);
        Due.same("what was liked stays told", x.town(0, 4), 48);
        for (int i = 0; i < 5; i++) {
            x.days(69);
        }
        Due.same("DAY", x.now(0), 395);
        Due.same("5 DAYS are left", x.liked(0, 1, 60), 5);
        Due.same("5 DAYS are left", x.liked(0, 1, 5), 5);
        x.days(5);
        Due.same("none is left", x.liked(0, 1, 60), 0);
    }

    private static void likedNoSuchOnes() {
        Due.promise(29, "are awake alone; NONE: no such ones.");
        RiverText x = Due.in(TWO);
        Due.same("no such EDITOR", x.liked(0, 4, 5), NONE);
        Due.same("no such EDITOR", x.liked(0, 5, 5), NONE);
        Due.same("no such EDITOR", x.liked(0, -1, 5), NONE);
        Due.same("no such TOWN", x.liked(1, 1, 5), NONE);
        Due.same("no such TOWN", x.liked(-1, 1, 5), NONE);
        Due.same("0 DAYS", x.liked(0, 1, 0), NONE);
        Due.same("61 DAYS", x.liked(0, 1, 61), NONE);
        Due.same("-1 DAYS", x.liked(0, 1, -1), NONE);
        for (int far : FAR) {
            Due.same("liked(" + far + ", 1, 5)", x.liked(far, 1, 5), NONE);
            Due.same("liked(0, " + far + ", 5)", x.liked(0, far, 5), NONE);
            Due.same("liked(0, 1, " + far + ")", x.liked(0, 1, far), NONE);
        }
        RiverText y = Due.in("reach r 1;town t r 0;");
        Due.same("no EDITORS", y.liked(0, 0, 1), 0);
        Due.same("no EDITORS", y.liked(0, 1, 1), NONE);
    }

    private static void howManyOtherwise() {
        Due.promise(30, "a TERM said k times is what more than half of them tell in the end: how many of k may be told otherwise.");
        RiverText x = new RiverText();
        for (int k = 1; k <= 99; k++) {
            int sure = x.sure(k);
            Due.yes("more than half of " + k + " tell it", 2 * (k - sure) > k);
            Due.no("one more would be too many of " + k, 2 * (k - sure - 1) > k);
        }
    }

    private static void sureNotAsTold() {
        Due.promise(30, "SURE by k (1 to 99) times; NONE: not as told.");
        RiverText x = Due.in(Due.LAND);
        Due.same("sure(1)", x.sure(1), 0);
        Due.same("sure(2)", x.sure(2), 0);
        Due.same("sure(99)", x.sure(99), 49);
        Due.same("sure(0)", x.sure(0), NONE);
        Due.same("sure(100)", x.sure(100), NONE);
        Due.same("sure(-1)", x.sure(-1), NONE);
        for (int k : FAR) {
            Due.same("sure(" + k + ")", x.sure(k), NONE);
        }
    }

    private static void moreThanHalf() {
        Due.promise(31, "the TERM that more than half of them are; NONE: none is; -2: not as told.");
        RiverText x = Due.in(Texts.TEN_TERMS);
        Due.same("1 of 1", Due.most(x, 9), 9);
        Due.same("1 of 2", Due.most(x, 9, 0), NONE);
        Due.same("2 of 2", Due.most(x, 9, 9), 9);
        Due.same("2 of 3", Due.most(x, 9, 0, 9), 9);
        Due.same("2 of 4", Due.most(x, 9, 0, 9, 1), NONE);
        Due.same("3 of 5, none too", Due.most(x, NONE, 3, 3, NONE, 3), 3);
        Due.same("2 of 4, none too", Due.most(x, NONE, 3, 3, NONE), NONE);
        Due.same("none", Due.most(x, NONE, NONE, NONE), NONE);
        int[] row = new int[99];
        Arrays.fill(row, 0, 50, 7);
        Due.same("50 of 99", Due.most(x, row), 7);
        row[0] = 1;
        Due.same("49 of 99 each of two", Due.most(x, row), NONE);
        row[0] = 0;
        Due.same("50 of 99 behind them", Due.most(x, row), 0);
        int[] even = new int[98];
        for (int i = 0; i < 49; i++) {
            even[2 * i] = 7;
        }
        Due.same("49 of 98", Due.most(x, even), NONE);
        even[1] = 7;
        Due.same("50 of 98", Due.most(x, even), 7);
    }

    private static void mostNotAsTold() {
        Due.promise(31, "by the tape (1 to 99 bytes: TERMS, 255 none)");
        RiverText x = Due.in("noun a;noun b;");
        Due.same("no bytes", Due.most(x), -2);
        Due.same("99 bytes", Due.most(x, new int[99]), 0);
        Due.same("100 bytes", Due.most(x, new int[100]), -2);
        Due.same("940 bytes", Due.most(x, new int[940]), -2);
        Due.same("no such TERM", Due.most(x, 2), -2);
        Due.same("no such TERM at the end", Due.most(x, 0, 0, 0, 254), -2);
        Due.same("no such TERM", Due.most(x, 128, 1, 1), -2);
        Due.same("255 is none", Due.most(x, 255, 1, 1), 1);
        RiverText y = new RiverText();
        Due.same("without TERMS", Due.most(y, 255), NONE);
        Due.same("without TERMS", Due.most(y, 0), -2);
    }

    private static void fromNowOn() {
        Due.promise(32, "The first DAY from now on on which a TOWN reads a TERM, in n (1 to 99) DAYS;");
        RiverText x = Due.in("noun a;noun b;noun c;reach r 3;says r a b b b;editor e r 1;turn e b c;town t r 0;town u r 2;");
        Due.same("today", x.when(0, 0, 1), 0);
        Due.same("tomorrow is not in 1 DAY", x.when(0, 1, 1), NONE);
        Due.same("but in 2", x.when(0, 1, 2), 1);
        Due.same("in 99", x.when(0, 1, 99), 1);
        Due.same("turned", x.when(1, 2, 99), 3);
        Due.same("not in 3 DAYS", x.when(1, 2, 3), NONE);
        Due.same("in 4 DAYS", x.when(1, 2, 4), 3);
        Due.same("never", x.when(1, 1, 99), NONE);
        x.days(1);
        Due.same("what went by does not count", x.when(0, 0, 99), 4);
        x.wake(0, 0);
        Due.same("e sleeps", x.when(1, 1, 99), 3);
        for (int i = 0; i < 3; i++) {
            x.days(99);
        }
        x.days(99);
        Due.same("DAY", x.now(0), 397);
        Due.same("today", x.when(1, 1, 99), 397);
        Due.same("no DAY 400", x.when(0, 0, 99), NONE);
        x.days(3);
        Due.same("all are over", x.when(0, 1, 99), NONE);
    }

    private static void whenNone() {
        Due.promise(32, "DAYS; NONE: none, no such ones.");
        RiverText x = Due.in("noun a;reach r 1;says r a;town t r 0;");
        Due.same("0 DAYS", x.when(0, 0, 0), NONE);
        Due.same("100 DAYS", x.when(0, 0, 100), NONE);
        Due.same("no such TERM", x.when(0, 1, 5), NONE);
        Due.same("none is no TERM", x.when(0, NONE, 5), NONE);
        Due.same("no such TOWN", x.when(1, 0, 5), NONE);
        Due.same("no such TOWN", x.when(-1, 0, 5), NONE);
        for (int far : FAR) {
            Due.same("when(" + far + ", 0, 5)", x.when(far, 0, 5), NONE);
            Due.same("when(0, " + far + ", 5)", x.when(0, far, 5), NONE);
            Due.same("when(0, 0, " + far + ")", x.when(0, 0, far), NONE);
        }
        Due.same("no DAY went by", x.now(0), 0);
    }

    private static void clashesToCome() {
        Due.promise(33, "CLASHES in n (1 to 99) DAYS from now;");
        RiverText x = Due.in("noun a;noun b;reach m 1;reach n 1 into m;reach o 1 into m;says n a;says o b a;");
        Due.same("1 DAY", x.clashes(1), 0);
        Due.same("2 DAYS", x.clashes(2), 1);
        Due.same("3 DAYS", x.clashes(3), 1);
        Due.same("4 DAYS", x.clashes(4), 2);
        Due.same("99 DAYS", x.clashes(99), 49);
        x.days(10);
        Due.same("so far", x.now(2), 5);
        Due.same("those so far do not count", x.clashes(1), 0);
        Due.same("in 2 DAYS from now", x.clashes(2), 1);
        for (int i = 0; i < 4; i++) {
            x.days(97);
        }
        Due.same("DAY", x.now(0), 398);
        Due.same("2 DAYS are left", x.clashes(99), 1);
        x.days(2);
        Due.same("all are over", x.clashes(99), 0);
        Due.same("so far", x.now(2), 200);
    }

    private static void clashesNotAsTold() {
        Due.promise(33, "DAYS from now; NONE: not as told.");
        RiverText x = Due.in(Due.LAND);
        Due.same("clashes(0)", x.clashes(0), NONE);
        Due.same("clashes(100)", x.clashes(100), NONE);
        Due.same("clashes(-1)", x.clashes(-1), NONE);
        for (int n : FAR) {
            Due.same("clashes(" + n + ")", x.clashes(n), NONE);
        }
        Due.same("without a COUNTRY", new RiverText().clashes(1), 0);
    }

    private static void unlikeThings() {
        Due.promise(34, "(of those gone by, the second one's later by so many (0 to 99))");
        RiverText x = Due.in("noun a;noun b;reach r 3;says r a b;town t r 0;town u r 1;town v r 2;");
        Due.same("none went by", x.unlike(0, 1, 0), 0);
        x.days(5);
        // t: a b a b a, u: - a b a b, v: - - a b a
        Due.same("the same DAYS", x.unlike(0, 1, 0), 5);
        Due.same("none is unlike a TERM, like none", x.unlike(1, 2, 0), 4);
        Due.same("a DAY later", x.unlike(0, 1, 1), 0);
        Due.same("the first one's later", x.unlike(1, 0, 1), 1);
        Due.same("a DAY later", x.unlike(1, 2, 1), 0);
        Due.same("two DAYS later", x.unlike(0, 2, 2), 0);
        Due.same("the last DAY only", x.unlike(0, 2, 4), 0);
        Due.same("the last DAY only", x.unlike(0, 1, 4), 1);
        Due.same("later than any", x.unlike(0, 1, 5), 0);
        Due.same("99 DAYS later", x.unlike(0, 1, 99), 0);
        Due.same("with itself", x.unlike(1, 1, 0), 0);
        Due.same("with itself a DAY later", x.unlike(1, 1, 1), 4);
        x.days(96);
        Due.same("99 DAYS later", x.unlike(1, 2, 99), 1);
    }

    private static void unlikeNoSuchOnes() {
        Due.promise(34, "later by so many (0 to 99)); NONE: no such ones.");
        RiverText x = Due.in("noun a;reach r 3;says r a;town t r 0;town u r 1;");
        x.days(3);
        Due.same("unlike(1, 0, 0)", x.unlike(1, 0, 0), 1);
        Due.same("unlike(2, 0, 0)", x.unlike(2, 0, 0), NONE);
        Due.same("unlike(0, 2, 0)", x.unlike(0, 2, 0), NONE);
        Due.same("unlike(-1, 0, 0)", x.unlike(-1, 0, 0), NONE);
        Due.same("unlike(0, -1, 0)", x.unlike(0, -1, 0), NONE);
        Due.same("unlike(0, 1, 100)", x.unlike(0, 1, 100), NONE);
        Due.same("unlike(0, 1, -1)", x.unlike(0, 1, -1), NONE);
        for (int far : FAR) {
            Due.same("unlike(" + far + ", 0, 0)", x.unlike(far, 0, 0), NONE);
            Due.same("unlike(0, " + far + ", 0)", x.unlike(0, far, 0), NONE);
            Due.same("unlike(0, 1, " + far + ")", x.unlike(0, 1, far), NONE);
        }
    }
}
