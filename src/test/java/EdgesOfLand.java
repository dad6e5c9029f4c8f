/** The edges of promises 6 to 11, 20 and 21: what stands in a COUNTRY and is asked by numbers. */
final class EdgesOfLand {
    private static final int NONE = Due.NONE;
    private static final int[] FAR = {Integer.MIN_VALUE, -256, -3, -2, 400, 255, 1 << 16, 1 << 30, Integer.MAX_VALUE};

    private EdgesOfLand() { }

    static void run() {
        sorts();
        noSuchTerm();
        ofAReach();
        nextTerm();
        noSuchReach();
        termsAtPlaces();
        noSuchPlace();
        ofAnEditor();
        noSuchEditor();
        makes();
        makesNone();
        ofATown();
        lastRead();
        firstDay();
        noSuchTown();
        aCallThatThrows();
        there();
        doesNotCome();
        above();
        noTownToBeAbove();
    }

    private static void sorts() {
        Due.promise(6, "a TERM, of its SORT 0 to 3)");
        RiverText x = Due.in("stop a;like b;verb c;noun d;noun e;verb f;like g;stop h;noun i;stop j;");
        int[] due = {3, 2, 1, 0, 0, 1, 2, 3, 0, 3};
        for (int t = 0; t < due.length; t++) {
            Due.same("term(" + t + ")", x.term(t), due[t]);
        }
    }

    private static void noSuchTerm() {
        Due.promise(6, "NONE: no such one.");
        RiverText x = Due.in("verb a;verb b;");
        Due.same("term(1)", x.term(1), 1);
        Due.same("term(2)", x.term(2), NONE);
        Due.same("term(-1)", x.term(-1), NONE);
        for (int t : FAR) {
            Due.same("term(" + t + ")", x.term(t), NONE);
        }
        RiverText y = Due.in(Texts.TEN_TERMS);
        Due.same("term(9) of ten", y.term(9), 0);
        Due.same("term(10) of ten", y.term(10), NONE);
        Due.country(y, "stop a;");
        Due.same("term(1) when there were more", y.term(1), NONE);
    }

    private static void ofAReach() {
        Due.promise(7, "0 LENGTH, 1 into which it flows (NONE), 2 how many flow into it, 3 TERMS that it says (0: it does not)");
        RiverText x = Due.in("noun a;reach m 1;reach n 9 into m;reach o 2 into m;reach p 3 into m;reach q 4 into n;"
                + "says o" + Due.times(12, " a") + ";says q a;");
        int[][] due = {{1, NONE, 3, 0}, {9, 0, 1, 0}, {2, 0, 0, 12}, {3, 0, 0, 0}, {4, 1, 0, 1}};
        for (int r = 0; r < due.length; r++) {
            for (int what = 0; what < 4; what++) {
                Due.same("reach(" + r + ", " + what + ")", x.reach(r, what), due[r][what]);
            }
        }
        Due.same("all others flow into it",
                Due.in("reach a 1;reach b 1 into a;reach c 1 into a;reach d 1 into a;reach e 1 into a;reach f 1 into a;"
                        + "reach g 1 into a;reach h 1 into a;").reach(0, 2), 7);
    }

    private static void nextTerm() {
        Due.promise(7, "4 the TERM that it says next (NONE)");
        RiverText x = Due.in("noun a;noun b;noun c;reach r 1;reach q 1;reach p 1;says q a b c;says p b;");
        for (int day = 0; day < 7; day++) {
            Due.same("a REACH that does not say", x.reach(0, 4), NONE);
            Due.same("next on DAY " + day, x.reach(1, 4), day % 3);
            Due.same("the only one", x.reach(2, 4), 1);
            x.days(1);
            Due.same("it was said", x.at(1, 0), day % 3);
        }
        for (int i = 0; i < 4; i++) {
            x.days(98);
        }
        Due.same("next on DAY 399", x.reach(1, 4), 399 % 3);
    }

    private static void noSuchReach() {
        Due.promise(7, "NONE, too: no such ones.");
        RiverText x = Due.in("noun a;reach r 2;reach q 3;says q a;");
        for (int what = 0; what < 5; what++) {
            Due.same("reach(-1, " + what + ")", x.reach(-1, what), NONE);
            Due.same("reach(2, " + what + ")", x.reach(2, what), NONE);
            for (int r : FAR) {
                Due.same("reach(" + r + ", " + what + ")", x.reach(r, what), NONE);
            }
        }
        Due.same("reach(1, 5)", x.reach(1, 5), NONE);
        Due.same("reach(1, -1)", x.reach(1, -1), NONE);
        for (int what : FAR) {
            Due.same("reach(1, " + what + ")", x.reach(1, what), NONE);
        }
    }

    private static void termsAtPlaces() {
        Due.promise(8, "A PLACE of a REACH (0 to its LENGTH less 1) has one TERM, or none (at first none).");
        RiverText x = Due.in("noun a;noun b;reach r 1;reach q 9;says q a b;");
        Due.same("at(0, 0)", x.at(0, 0), NONE);
        for (int place = 0; place < 9; place++) {
            Due.same("at(1, " + place + ") at first", x.at(1, place), NONE);
        }
        x.days(9);
        for (int place = 0; place < 9; place++) {
            Due.same("at(1, " + place + ") behind DAY 8", x.at(1, place), place % 2);
        }
        x.days(1);
        for (int place = 0; place < 9; place++) {
            Due.same("at(1, " + place + ") behind DAY 9", x.at(1, place), 1 - place % 2);
        }
        Due.same("none comes to a REACH of no source", x.at(0, 0), NONE);
    }

    private static void noSuchPlace() {
        Due.promise(8, "NoSuchElementException: no such ones.");
        RiverText x = Due.in("reach r 1;reach q 9;");
        Due.throwsNoSuch("at(0, 1)", () -> x.at(0, 1));
        Due.throwsNoSuch("at(0, -1)", () -> x.at(0, -1));
        Due.throwsNoSuch("at(1, 9)", () -> x.at(1, 9));
        Due.throwsNoSuch("at(1, -1)", () -> x.at(1, -1));
        Due.throwsNoSuch("at(2, 0)", () -> x.at(2, 0));
        Due.throwsNoSuch("at(-1, 0)", () -> x.at(-1, 0));
        for (int far : FAR) {
            Due.throwsNoSuch("at(" + far + ", 0)", () -> x.at(far, 0));
            Due.throwsNoSuch("at(1, " + far + ")", () -> x.at(1, far));
            Due.throwsNoSuch("at(" + far + ", " + far + ")", () -> x.at(far, far));
        }
        Due.country(x, "reach r 2;");
        Due.throwsNoSuch("a REACH that there was", () -> x.at(1, 0));
        Due.throwsNoSuch("a PLACE of another LENGTH", () -> x.at(0, 2));
    }

    private static void ofAnEditor() {
        Due.promise(9, "0 REACH, 1 AT, 2 awake (1, 0), 3 TERMS that it struck so far, 4 that it turned.");
        RiverText x = Due.in("noun a;noun b;noun c;reach r 1;reach q 2;says q a b c;editor e q 1;strike e a;turn e b c;");
        int[][] due = {{1, 1, 1, 0, 0}, {1, 1, 1, 0, 0}, {1, 1, 1, 1, 0}, {1, 1, 1, 1, 1}, {1, 1, 1, 1, 1}, {1, 1, 1, 2, 1}};
        for (int day = 0; day < due.length; day++) {
            for (int what = 0; what < 5; what++) {
                Due.same("editor(0, " + what + ") ahead of DAY " + day, x.editor(0, what), due[day][what]);
            }
            x.days(1);
        }
        x.wake(0, 0);
        Due.same("asleep", x.editor(0, 2), 0);
        x.days(9);
        Due.same("none is struck by one who sleeps", x.editor(0, 3), 2);
        Due.same("none is turned by one who sleeps", x.editor(0, 4), 2);
    }

    private static void noSuchEditor() {
        Due.promise(9, "NONE: no such ones.");
        RiverText x = Due.in("reach r 3;editor e r 1;editor f r 2;");
        for (int what = 0; what < 5; what++) {
            Due.same("editor(-1, " + what + ")", x.editor(-1, what), NONE);
            Due.same("editor(2, " + what + ")", x.editor(2, what), NONE);
            for (int e : FAR) {
                Due.same("editor(" + e + ", " + what + ")", x.editor(e, what), NONE);
            }
        }
        Due.same("editor(1, 5)", x.editor(1, 5), NONE);
        Due.same("editor(1, -1)", x.editor(1, -1), NONE);
        for (int what : FAR) {
            Due.same("editor(1, " + what + ")", x.editor(1, what), NONE);
        }
    }

    private static void makes() {
        Due.promise(10, "What an EDITOR makes of a TERM, if it is awake: the TERM, NONE (struck)");
        RiverText x = Due.in("noun a;noun b;noun c;noun d;reach r 1;reach q 1;editor e r 0;editor f q 0;"
                + "strike e a;turn e b c;turn e c b;");
        int[] due = {NONE, 2, 1, 3};
        for (int t = 0; t < due.length; t++) {
            Due.same("makes(0, " + t + ")", x.makes(0, t), due[t]);
            Due.same("makes(1, " + t + ")", x.makes(1, t), t);
        }
        x.wake(0, 0);
        for (int t = 0; t < due.length; t++) {
            Due.same("asleep, makes(0, " + t + ")", x.makes(0, t), due[t]);
        }
    }

    private static void makesNone() {
        Due.promise(10, "-2: no such ones.");
        RiverText x = Due.in("noun a;noun b;reach r 2;editor e r 0;editor f r 1;strike f b;");
        Due.same("makes(1, 1)", x.makes(1, 1), NONE);
        Due.same("makes(1, 2)", x.makes(1, 2), -2);
        Due.same("makes(1, -1)", x.makes(1, -1), -2);
        Due.same("makes(2, 1)", x.makes(2, 1), -2);
        Due.same("makes(-1, 1)", x.makes(-1, 1), -2);
        for (int far : FAR) {
            Due.same("makes(1, " + far + ")", x.makes(1, far), -2);
            Due.same("makes(" + far + ", 1)", x.makes(far, 1), -2);
        }
    }

    private static void ofATown() {
        Due.promise(11, "3 TERMS read so far, 4 of these liked,");
        // u is two DAYS behind: it reads a, none, c, a, ..
        RiverText x = Due.in("noun a;noun b;noun c;reach r 3;says r a b c;editor e r 1;strike e b;"
                + "town t r 0;town u r 2;taste u a;taste u b;");
        int[] words = {0, 0, 0, 1, 1, 2, 3, 3};
        int[] liked = {0, 0, 0, 1, 1, 1, 2, 2};
        for (int day = 0; day < words.length; day++) {
            Due.same("town(0, 0)", x.town(0, 0), 0);
            Due.same("town(1, 1)", x.town(1, 1), 2);
            Due.same("TERMS read by t ahead of DAY " + day, x.town(0, 3), day);
            Due.same("none is no TERM read, ahead of DAY " + day, x.town(1, 3), words[day]);
            Due.same("liked by u ahead of DAY " + day, x.town(1, 4), liked[day]);
            Due.same("t likes none", x.town(0, 4), 0);
            x.days(1);
        }
    }

    private static void lastRead() {
        Due.promise(11, "2 the TERM that it read last (NONE)");
        RiverText x = Due.in("noun a;noun b;reach r 2;says r a b;editor e r 1;strike e b;town t r 1;");
        Due.same("ahead of any DAY", x.town(0, 2), NONE);
        int[] due = {NONE, 0, NONE, 0, NONE};
        for (int day = 0; day < due.length; day++) {
            x.days(1);
            Due.same("on DAY " + day, x.town(0, 2), due[day]);
        }
        x.stone(0, 1, 1);
        Due.same("a stone is not read yet", x.town(0, 2), NONE);
    }

    private static void firstDay() {
        Due.promise(11, "5 the first DAY on which it read a TERM (NONE)");
        RiverText x = Due.in("noun a;reach r 3;reach q 1;says r a;town t r 0;town u r 2;town v q 0;");
        int[] due = {NONE, NONE, NONE, 2, 2};
        for (int day = 0; day < due.length; day++) {
            Due.same("DAY 0 is one, ahead of DAY " + day, x.town(0, 5), day == 0 ? NONE : 0);
            Due.same("u, ahead of DAY " + day, x.town(1, 5), due[day]);
            Due.same("v never", x.town(2, 5), NONE);
            x.days(1);
        }
        for (int i = 0; i < 4; i++) {
            x.days(98);
        }
        x.days(2);
        x.stone(1, 0, 0);
        x.days(1);
        Due.same("what is thrown there has gone by DAY 399", x.town(2, 5), NONE);
        x.undo();
        Due.same("u, ahead of DAY 399", x.town(1, 5), 2);
    }

    private static void noSuchTown() {
        Due.promise(11, "NoSuchElementException: no such ones.");
        RiverText x = Due.in("reach r 2;town t r 0;town u r 1;");
        for (int what = 0; what < 6; what++) {
            int asked = what;
            Due.throwsNoSuch("town(-1, " + what + ")", () -> x.town(-1, asked));
            Due.throwsNoSuch("town(2, " + what + ")", () -> x.town(2, asked));
        }
        Due.throwsNoSuch("town(1, 6)", () -> x.town(1, 6));
        Due.throwsNoSuch("town(1, -1)", () -> x.town(1, -1));
        for (int far : FAR) {
            Due.throwsNoSuch("town(" + far + ", 2)", () -> x.town(far, 2));
            Due.throwsNoSuch("town(1, " + far + ")", () -> x.town(1, far));
        }
    }

    private static void aCallThatThrows() {
        Due.promise(11, "A call that throws changes nothing.");
        RiverText x = Due.in(Due.LAND);
        Due.sentence(x, "on main");
        x.days(8);
        x.wake(0, 0);
        x.feed(1, 2, 3, 4, 5);
        Told.stays("calls that throw", x, () -> {
            Due.throwsNoSuch("at(0, 4)", () -> x.at(0, 4));
            Due.throwsNoSuch("at(3, 0)", () -> x.at(3, 0));
            Due.throwsNoSuch("town(3, 0)", () -> x.town(3, 0));
            Due.throwsNoSuch("town(0, 6)", () -> x.town(0, 6));
        });
        Due.same("both acts can be undone", x.undo(), 1);
        Due.same("both acts can be undone", x.undo(), 0);
    }

    private static void there() {
        Due.promise(20, "DAYS from a PLACE of a REACH to a TOWN (0: there)");
        RiverText x = Due.in("reach a 9;reach b 9 into a;reach c 9 into b;reach d 9 into c;reach e 9 into d;"
                + "reach f 9 into e;reach g 9 into f;reach h 9 into g;town t a 8;town u h 0;");
        Due.same("there", x.flows(0, 8, 0), 0);
        Due.same("there", x.flows(7, 0, 1), 0);
        Due.same("a PLACE ahead", x.flows(0, 7, 0), 1);
        for (int r = 0; r < 8; r++) {
            for (int place = 0; place < 9; place++) {
                Due.same("flows(" + r + ", " + place + ", 0)", x.flows(r, place, 0), 9 * r + 8 - place);
            }
        }
        RiverText y = Due.in("noun a;reach r 1;reach q 1 into r;says q a;town t r 0;");
        Due.same("from a REACH of one PLACE", y.flows(1, 0, 0), 1);
        y.days(2);
        Due.same("so it is read", y.town(0, 2), 0);
    }

    private static void doesNotCome() {
        Due.promise(20, "NONE: it does not come there, no such ones.");
        RiverText x = Due.in("reach a 3;reach b 2 into a;reach c 2 into a;town t a 1;town u b 0;");
        Due.same("behind it", x.flows(0, 2, 0), NONE);
        Due.same("behind it, above", x.flows(1, 1, 1), NONE);
        Due.same("far behind it", Due.in("reach a 9;town t a 0;").flows(0, 8, 0), NONE);
        Due.same("far behind it", Due.in("reach a 9;town t a 5;").flows(0, 7, 0), NONE);
        Due.same("below", x.flows(0, 0, 1), NONE);
        Due.same("beside", x.flows(2, 0, 1), NONE);
        Due.same("no such REACH", x.flows(3, 0, 0), NONE);
        Due.same("no such REACH", x.flows(-1, 0, 0), NONE);
        Due.same("no such PLACE", x.flows(1, 2, 0), NONE);
        Due.same("no such PLACE", x.flows(1, -1, 0), NONE);
        Due.same("no such TOWN", x.flows(0, 0, 2), NONE);
        Due.same("no such TOWN", x.flows(0, 0, -1), NONE);
        for (int far : FAR) {
            Due.same("no such REACH", x.flows(far, 0, 0), NONE);
            Due.same("no such PLACE", x.flows(0, far, 0), NONE);
            Due.same("no such TOWN", x.flows(0, 0, far), NONE);
        }
    }

    private static void above() {
        Due.promise(21, "ABOVE a TOWN: its own REACH and all that flow into it, on and on (of its own up to its PLACE).");
        RiverText x = Due.in("reach a 9;reach b 9 into a;reach c 9;reach d 9 into b;reach e 9 into a;reach f 9 into d;"
                + "reach g 9 into f;reach h 9 into g;town t a 0;town u a 8;town v c 5;town w h 0;town y f 4;");
        int[] due = {255 - 4, 255 - 4, 4, 128, 32 + 64 + 128};
        for (int t = 0; t < due.length; t++) {
            Due.same("above(" + t + ")", x.above(t), due[t]);
        }
    }

    private static void noTownToBeAbove() {
        Due.promise(21, "REACHES ABOVE a TOWN, as bits; NONE: no such one.");
        RiverText x = Due.in("reach a 9;reach b 9;town t b 0;");
        Due.same("above(0)", x.above(0), 2);
        Due.same("above(1)", x.above(1), NONE);
        Due.same("above(-1)", x.above(-1), NONE);
        for (int t : FAR) {
            Due.same("above(" + t + ")", x.above(t), NONE);
        }
    }
}
