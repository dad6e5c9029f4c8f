/** Promises 6 to 20: what stands in a COUNTRY, what goes by in it, what is undone. */
public final class DaysTest {
    private static final int NONE = Due.NONE;

    public static void main(String[] args) {
        term();
        reach();
        at();
        editor();
        makes();
        town();
        now();
        days();
        clashing();
        editing();
        wake();
        stone();
        undo();
        well();
        sense();
        sayings();
        flows();
        Due.finish();
    }

    private static void term() {
        RiverText x = Due.in("stop a;like b;verb c;noun d;");
        for (int t = 0; t < 4; t++) {
            Due.same("SORT", x.term(t), 3 - t);
        }
        Due.same("no such TERM", x.term(4), NONE);
        Due.same("no such TERM", x.term(-1), NONE);
        Due.same("no such TERM", x.term(Integer.MAX_VALUE), NONE);
    }

    private static void reach() {
        RiverText x = Due.in(Due.LAND);
        int[][] due = {{4, NONE, 2, 0, NONE}, {2, 0, 0, 4, Due.OLD}, {3, 0, 0, 1, Due.FISH}};
        for (int r = 0; r < due.length; r++) {
            for (int what = 0; what < 5; what++) {
                Due.same("reach " + r + " " + what, x.reach(r, what), due[r][what]);
            }
        }
        Due.same("another what", x.reach(0, 5), NONE);
        Due.same("another what", x.reach(0, -1), NONE);
        Due.same("no such REACH", x.reach(3, 0), NONE);
        Due.same("no such REACH", x.reach(-1, 0), NONE);
        x.days(3);
        Due.same("says next", x.reach(1, 4), Due.DOT);
        x.days(1);
        Due.same("again from the first", x.reach(1, 4), Due.OLD);
        x.undo();
        Due.same("undone", x.reach(1, 4), Due.DOT);
    }

    private static void at() {
        RiverText x = Due.in("noun a;noun b;reach r 3;says r a b;");
        for (int p = 0; p < 3; p++) {
            Due.same("at first none", x.at(0, p), NONE);
        }
        int[][] due = {{0, NONE, NONE}, {1, 0, NONE}, {0, 1, 0}, {1, 0, 1}, {0, 1, 0}};
        for (int[] row : due) {
            x.days(1);
            for (int p = 0; p < 3; p++) {
                Due.same("at " + p + " behind DAY " + (x.now(0) - 1), x.at(0, p), row[p]);
            }
        }
        Due.throwsNoSuch("no such PLACE", () -> x.at(0, 3));
        Due.throwsNoSuch("no such PLACE", () -> x.at(0, -1));
        Due.throwsNoSuch("no such REACH", () -> x.at(1, 0));
        Due.throwsNoSuch("no such REACH", () -> x.at(-1, 0));
        Due.same("a call that throws changes nothing", x.now(0), 5);
    }

    private static void editor() {
        RiverText x = Due.in("noun a;noun b;noun c;reach r 3;says r a b c;editor e r 2;editor f r 1;"
                + "strike f a;turn f b c;turn e c a;");
        int[] atFirst = {0, 1, 1, 0, 0};
        for (int what = 0; what < 5; what++) {
            Due.same("editor 1 " + what, x.editor(1, what), atFirst[what]);
        }
        x.days(4);
        // a, b, c came to f: a is struck, b turned into c, c stays; then b as c and c come to e
        Due.same("struck by f", x.editor(1, 3), 1);
        Due.same("turned by f", x.editor(1, 4), 1);
        Due.same("struck by e", x.editor(0, 3), 0);
        Due.same("turned by e", x.editor(0, 4), 1);
        x.wake(0, 0);
        Due.same("asleep", x.editor(0, 2), 0);
        x.days(1);
        Due.same("asleep it turns none", x.editor(0, 4), 1);
        Due.same("the PLACE of e", x.editor(0, 1), 2);
        Due.same("another what", x.editor(0, 5), NONE);
        Due.same("another what", x.editor(0, -1), NONE);
        Due.same("no such EDITOR", x.editor(2, 0), NONE);
        Due.same("no such EDITOR", x.editor(-1, 2), NONE);
    }

    private static void makes() {
        RiverText x = Due.in("noun a;noun b;noun c;reach r 3;editor e r 2;strike e a;turn e b c;turn e c b;");
        Due.same("struck", x.makes(0, 0), NONE);
        Due.same("turned", x.makes(0, 1), 2);
        Due.same("turned once", x.makes(0, 2), 1);
        x.wake(0, 0);
        Due.same("what it makes, if it is awake", x.makes(0, 1), 2);
        Due.same("no such TERM", x.makes(0, 3), -2);
        Due.same("no such TERM", x.makes(0, -1), -2);
        Due.same("no such EDITOR", x.makes(1, 0), -2);
        Due.same("no such EDITOR", x.makes(-1, 0), -2);
        Due.same("left as it is", Due.in("noun a;reach r 1;editor e r 0;").makes(0, 0), 0);
    }

    private static void town() {
        RiverText x = Due.in("noun a;noun b;reach r 3;says r a b;editor e r 1;strike e a;town t r 0;town u r 2;taste u b;");
        Due.same("read last ahead of DAY 0", x.town(0, 2), NONE);
        Due.same("first DAY ahead of DAY 0", x.town(0, 5), NONE);
        x.days(4);
        int[] first = {0, 0, 1, 4, 0, 0};
        int[] second = {0, 2, 1, 1, 1, 3};
        for (int what = 0; what < 6; what++) {
            Due.same("town 0 " + what, x.town(0, what), first[what]);
            Due.same("town 1 " + what, x.town(1, what), second[what]);
        }
        x.days(1);
        Due.same("none is read last", x.town(1, 2), NONE);
        Due.same("none is no TERM read", x.town(1, 3), 1);
        x.stone(0, 2, 0);
        Due.same("a stone is not read ahead of a DAY", x.town(1, 2), NONE);
        Due.throwsNoSuch("another what", () -> x.town(0, 6));
        Due.throwsNoSuch("another what", () -> x.town(0, -1));
        Due.throwsNoSuch("no such TOWN", () -> x.town(2, 0));
        Due.throwsNoSuch("no such TOWN", () -> x.town(-1, 0));
        Due.same("a call that throws changes nothing", x.now(0), 5);
    }

    private static void now() {
        RiverText x = Due.in(Due.LAND);
        x.days(8);
        int[] due = {8, 9, 3, 1, 1, 2};
        for (int what = 0; what < 6; what++) {
            Due.same("now " + what, x.now(what), due[what]);
        }
        // on DAY 6 the first 'old' was struck in front of the sea; 'fish' came there as what 'king' was turned into
        Due.same("struck by mo", x.editor(1, 3), 1);
        Due.same("another what", x.now(6), NONE);
        Due.same("another what", x.now(-1), NONE);
        x.stone(0, 1, NONE);
        Due.same("one fewer on their way", x.now(1), 8);
    }

    private static void days() {
        RiverText x = Due.in(Due.LAND);
        Due.same("0 DAYS", x.days(0), NONE);
        Due.same("100 DAYS", x.days(100), NONE);
        Due.same("-1 DAYS", x.days(-1), NONE);
        Due.same("none went by", x.now(0), 0);
        for (int i = 0; i < 4; i++) {
            Due.same("99 DAYS", x.days(99), 99);
        }
        Due.same("DAYS 396 to 399", x.days(99), 4);
        Due.same("all are over", x.now(0), 400);
        Due.same("none is left", x.days(1), 0);
        Due.same("0 DAYS can't be undone", x.undo(), 3);
        Due.same("back to DAY 396", x.now(0), 396);
        Due.same("what was read on DAY 395 is kept", x.well(0, 395), Due.RUNS);
        Due.same("the last DAYS", x.days(4), 4);
        Due.same("DAY 399 is kept", x.well(0, 399), Due.RUNS);
    }

    private static void clashing() {
        RiverText x = Due.in("noun a;noun b;reach r 2;reach p 1 into r;reach q 1 into r;reach o 2 into r;"
                + "says p a b;says q b;says o a;town t r 0;");
        x.days(2);
        // DAY 1: a of p stays, b of q clashes
        Due.same("that of the least REACH stays", x.well(0, 1), 0);
        Due.same("a CLASH", x.now(2), 1);
        x.days(1);
        // DAY 2: b of p stays, b of q is like it, a of o clashes
        Due.same("that of the least REACH stays", x.well(0, 2), 1);
        Due.same("none with a TERM that is like", x.now(2), 2);
        x.days(1);
        // DAY 3: a of p, b of q, a of o
        Due.same("CLASHES", x.now(2), 3);
        RiverText y = Due.in("noun a;noun b;noun c;reach r 2;reach p 1 into r;reach q 1 into r;reach o 1 into r;"
                + "says q b;says o c;says p a;town t r 0;");
        y.days(2);
        Due.same("one for each other", y.now(2), 2);
        RiverText z = Due.in("noun a;noun b;reach r 1;reach p 2 into r;reach q 1 into r;says p a;says q b;town t r 0;");
        z.days(2);
        Due.same("none came of the least yet", z.well(0, 1), 1);
        Due.same("so there is no CLASH", z.now(2), 0);
    }

    private static void editing() {
        RiverText x = Due.in("noun a;noun b;noun c;reach r 1;says r a;editor e r 0;turn e a b;turn e b c;town t r 0;");
        x.days(2);
        Due.same("a TERM is turned once", x.well(0, 0), 1);
        Due.same("turned", x.now(5), 2);
        Due.same("into the sea", x.now(3), 1);
        RiverText y = Due.in("noun a;noun b;noun c;reach r 2;says r a;editor e r 0;editor f r 1;turn e a b;turn f b c;"
                + "town t r 0;town u r 1;");
        y.days(2);
        Due.same("an EDITOR is ahead of the TOWN at its PLACE", y.well(0, 0), 1);
        Due.same("the next EDITOR turns what came", y.well(1, 1), 2);
    }

    private static void wake() {
        RiverText x = Due.in(Due.LAND);
        Due.no("awake already", x.wake(0, 1));
        Due.no("no such EDITOR", x.wake(2, 0));
        Due.no("no such EDITOR", x.wake(-1, 0));
        Due.no("neither awake nor asleep", x.wake(0, 2));
        Due.no("neither awake nor asleep", x.wake(0, -1));
        Due.same("nothing was done", x.undo(), NONE);
        Due.yes("asleep", x.wake(0, 0));
        Due.no("asleep already", x.wake(0, 0));
        x.days(3);
        Due.same("not turned", x.well(0, 2), Due.KING);
        Due.yes("awake", x.wake(0, 1));
        x.days(4);
        Due.same("turned again", x.well(0, 6), Due.FISH);
    }

    private static void stone() {
        RiverText x = Due.in(Due.LAND);
        Due.yes("a stone", x.stone(0, 0, Due.DOT));
        Due.no("it is so already", x.stone(0, 0, Due.DOT));
        Due.no("it is so already: none", x.stone(0, 1, NONE));
        Due.no("no such REACH", x.stone(3, 0, 0));
        Due.no("no such REACH", x.stone(-1, 0, 0));
        Due.no("no such PLACE", x.stone(0, 4, 0));
        Due.no("no such PLACE", x.stone(0, -1, 0));
        Due.no("no such TERM", x.stone(0, 0, 5));
        Due.no("no such TERM", x.stone(0, 0, -2));
        Due.same("it is there", x.at(0, 0), Due.DOT);
        x.days(1);
        Due.same("it goes on", x.at(0, 1), Due.DOT);
        Due.same("it is read", x.well(1, 0), Due.DOT);
        Due.yes("none is there", x.stone(0, 1, NONE));
        Due.same("none", x.at(0, 1), NONE);
        Due.same("two stones and a DAY", x.undo(), 2);
        Due.same("undone", x.at(0, 1), Due.DOT);
    }

    private static void undo() {
        RiverText x = Due.in(Due.LAND);
        x.days(3);
        x.wake(0, 0);
        x.stone(1, 0, Due.DOT);
        x.drawn(5, 9);
        Due.daybook(x, "day 2;", 1);
        Due.same("the DAYBOOK is undone", x.undo(), 3);
        Due.same("DAY", x.now(0), 8);
        Due.same("drawn() is undone", x.undo(), 2);
        Due.same("DAY", x.now(0), 3);
        Due.same("the stone is there", x.at(1, 0), Due.DOT);
        Due.same("the stone is undone", x.undo(), 1);
        Due.same("the TERM is back", x.at(1, 0), Due.RUNS);
        Due.same("asleep", x.editor(0, 2), 0);
        Due.same("wake() is undone", x.undo(), 0);
        Due.same("awake", x.editor(0, 2), 1);
        Due.same("4 are kept, no more", x.undo(), NONE);
        Due.same("the DAYS went by", x.now(0), 3);
        x.days(5);
        int[] told = all(x);
        x.days(40);
        x.undo();
        int[] again = all(x);
        for (int i = 0; i < told.length; i++) {
            Due.same("all is as it was (" + i + ")", again[i], told[i]);
        }
        Due.same("DAYS that were undone are not read yet", x.well(0, 8), -2);
        Due.daybook(x, "ta reads dot;", 0);
        x.image(0);
        Due.sentence(x, "sense");
        Due.same("no other call is kept", x.undo(), 0);
        Due.same("the SENTENCE stays", x.said(NONE), 3);
    }

    private static int[] all(RiverText x) {
        int[] told = new int[6 + 18 + 10 + 9];
        int n = 0;
        for (int what = 0; what < 6; what++) {
            told[n++] = x.now(what);
            for (int t = 0; t < 3; t++) {
                told[n++] = x.town(t, what);
            }
        }
        for (int what = 0; what < 5; what++) {
            told[n++] = x.editor(0, what);
            told[n++] = x.editor(1, what);
        }
        for (int r = 0; r < 3; r++) {
            for (int p = 0; p < x.reach(r, 0); p++) {
                told[n++] = x.at(r, p);
            }
        }
        return told;
    }

    private static void well() {
        RiverText x = Due.in(Due.LAND);
        Due.same("no DAY went by", x.well(0, 0), -2);
        x.days(8);
        int[] ta = {NONE, Due.OLD, Due.FISH, Due.RUNS, Due.DOT, Due.OLD, Due.FISH, Due.RUNS};
        int[] tb = {NONE, NONE, NONE, Due.OLD, Due.FISH, Due.RUNS, Due.DOT, Due.OLD};
        int[] tc = {NONE, NONE, NONE, NONE, NONE, NONE, Due.FISH, Due.RUNS};
        for (int d = 0; d < 8; d++) {
            Due.same("ta on DAY " + d, x.well(0, d), ta[d]);
            Due.same("tb on DAY " + d, x.well(1, d), tb[d]);
            Due.same("tc on DAY " + d, x.well(2, d), tc[d]);
        }
        Due.same("not yet", x.well(0, 8), -2);
        Due.same("no such DAY", x.well(0, -1), -2);
        Due.same("no such DAY", x.well(0, 400), -2);
        Due.same("no such TOWN", x.well(3, 0), -2);
        Due.same("no such TOWN", x.well(-1, 0), -2);
    }

    /** A TOWN that reads these TERMS (by their SORT: n, v, l, s) one by one. */
    private static RiverText reading(String sorts) {
        String says = "";
        for (char c : sorts.toCharArray()) {
            says += " " + c;
        }
        RiverText x = Due.in("noun n;verb v;like l;stop s;reach r 1;says r" + says + ";town t r 0;");
        x.days(sorts.length());
        return x;
    }

    private static void sense() {
        String[] whole = {"n", "nv", "nvs", "nvns", "nvlns", "nvlllns", "lnvs", "lllnvlns", "nvsnvs", "nvsl", "nvll", "l"};
        for (String sorts : whole) {
            Due.same("sense of " + sorts, reading(sorts).sense(0), NONE);
        }
        String[] broken = {"v", "s", "nn", "ns", "nl", "nvv", "nvls", "nvlv", "nvnn", "nvnv", "nvnl", "ls", "lv",
            "nvss", "nvsv"};
        for (String sorts : broken) {
            Due.same("sense of " + sorts, reading(sorts).sense(0), sorts.length() - 1);
        }
        RiverText x = Due.in("noun n;verb v;stop s;reach r 1;says r n v s v n;town t r 0;editor e r 0;strike e s;");
        x.days(9);
        Due.same("the first DAY of no sense, none left out", x.sense(0), 3);
        RiverText y = reading("nvsv");
        y.days(40);
        Due.same("it stays so", y.sense(0), 3);
        Due.same("no such TOWN", y.sense(1), -2);
        Due.same("no such TOWN", y.sense(-1), -2);
        Due.same("nothing was read", Due.in("reach r 1;town t r 0;").sense(0), NONE);
    }

    private static void sayings() {
        Due.same("none", reading("nvn").sayings(0), 0);
        Due.same("two", reading("nvslnvnsn").sayings(0), 2);
        Due.same("up to where it makes sense", reading("nvsvsnvs").sayings(0), 1);
        Due.same("no such TOWN", reading("n").sayings(1), NONE);
        Due.same("no such TOWN", reading("n").sayings(-1), NONE);
    }

    private static void flows() {
        RiverText x = Due.in(Due.LAND);
        Due.same("there", x.flows(0, 1, 1), 0);
        Due.same("on its REACH", x.flows(0, 0, 2), 3);
        Due.same("from one above", x.flows(1, 0, 1), 3);
        Due.same("from its last PLACE", x.flows(2, 2, 2), 4);
        Due.same("behind the TOWN", x.flows(0, 2, 1), NONE);
        Due.same("on another REACH", x.flows(2, 0, 0), NONE);
        Due.same("below", x.flows(0, 0, 0), NONE);
        Due.same("no such REACH", x.flows(3, 0, 0), NONE);
        Due.same("no such REACH", x.flows(-1, 0, 0), NONE);
        Due.same("no such PLACE", x.flows(0, 4, 0), NONE);
        Due.same("no such PLACE", x.flows(0, -1, 2), NONE);
        Due.same("no such TOWN", x.flows(0, 0, 3), NONE);
        Due.same("no such TOWN", x.flows(0, 0, -1), NONE);
        RiverText y = Due.in("reach a 9;reach b 9 into a;reach c 9 into b;reach d 9 into c;reach e 9 into d;"
                + "reach f 9 into e;reach g 9 into f;reach h 9 into g;town t a 8;");
        Due.same("the longest way", y.flows(7, 0, 0), 71);
    }
}
