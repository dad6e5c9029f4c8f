import java.util.List;

/** The edges of promises 16 (undo), 42 (image), 43 (restore). */
final class EdgesOfActs {
    private static final int NONE = Due.NONE;
    private static final int[] FAR = {Integer.MIN_VALUE, -256, -2, -1, 2, 3, 1 << 16, Integer.MAX_VALUE};

    private EdgesOfActs() { }

    static void run() {
        eachAct();
        noActs();
        fourAtMost();
        noneIs();
        allOfIt();
        notTheSentence();
        twoPlaces();
        noSuchPlace();
        allThatIsSo();
        oneForTheOther();
        sentencesToo();
        nothingIsKept();
        whatStays();
        nothingCanBeUndone();
        countries();
    }

    private static void eachAct() {
        Due.promise(16, "The latest of days() or drawn() that was above 0, wake(), stone(), a DAYBOOK of which a LINE was lived, "
                + "that was done is undone: how many more can be");
        RiverText x = Due.in(Due.LAND);
        x.days(2);
        Due.same("days()", x.undo(), 0);
        Due.same("DAY", x.now(0), 0);
        x.days(1);
        Due.same("one DAY", x.undo(), 0);
        Due.same("DAY", x.now(0), 0);
        x.drawn(2, 9);
        Due.same("drawn()", x.undo(), 0);
        Due.same("DAY", x.now(0), 0);
        x.drawn(1, 9);
        Due.same("one DAY drawn", x.undo(), 0);
        Due.same("DAY", x.now(0), 0);
        x.wake(0, 0);
        Due.same("wake()", x.undo(), 0);
        Due.same("awake", x.editor(0, 2), 1);
        x.wake(0, 0);
        x.wake(0, 1);
        Due.same("wake()", x.undo(), 1);
        Due.same("asleep", x.editor(0, 2), 0);
        Due.same("wake()", x.undo(), 0);
        x.stone(0, 0, 1);
        Due.same("stone()", x.undo(), 0);
        Due.same("none", x.at(0, 0), NONE);
        Due.daybook(x, "ed sleeps;ed sleeps;", 1);
        Due.same("a DAYBOOK, WRONG behind a LINE", x.undo(), 0);
        Due.same("awake", x.editor(0, 2), 1);
        Due.daybook(x, "ed sleeps;day 9;", 1);
        Due.same("a DAYBOOK that is not WRONG", x.undo(), 0);
        Due.same("DAY", x.now(0), 0);
        Due.daybook(x, "ta reads none;", 1);
        Due.same("a LINE that reads is lived too", x.undo(), 0);
        Due.same("no more", x.undo(), NONE);
    }

    private static void noActs() {
        Due.promise(16, "that was above 0,");
        RiverText x = Due.in(Due.LAND);
        for (int i = 0; i < 4; i++) {
            x.days(99);
        }
        x.drawn(4, 1);
        x.days(1);
        x.drawn(5, 1);
        x.days(0);
        x.drawn(0, 1);
        x.wake(0, 1);
        x.stone(0, 0, x.at(0, 0));
        Due.daybook(x, "", 1);
        Due.daybook(x, "ed sleeps;mo sleeps;", 0);
        Due.daybook(x, "ed wakes;ed sleeps;", 1);
        Due.daybook(x, "day 1;", 1);
        Due.daybook(x, "ed sleeps;?", 1);
        Due.daybook(x, "ed sleeps;", 2);
        Due.sentence(x, "sense");
        x.image(1);
        x.rests(2, 0);
        x.odds(0, 2, 2);
        Due.same("the latest act is drawn()", x.undo(), 3);
        Due.same("DAY", x.now(0), 396);
        Due.same("then days()", x.undo(), 2);
        Due.same("DAY", x.now(0), 297);
    }

    private static void fourAtMost() {
        Due.promise(16, "how many more can be (4 at most are kept);");
        RiverText x = Due.in(Due.LAND);
        for (int acts = 1; acts <= 9; acts++) {
            x.days(acts);
        }
        int day = 45;
        for (int more = 3; more >= 0; more--) {
            Due.same("undo", x.undo(), more);
            day -= 6 + more;
            Due.same("DAY", x.now(0), day);
        }
        Due.same("a fifth is not kept", x.undo(), NONE);
        Due.same("DAY", x.now(0), 15);
        x.days(1);
        Due.same("one that came since", x.undo(), 0);
        x.days(1);
        x.wake(0, 0);
        x.undo();
        x.stone(0, 3, 0);
        x.days(1);
        Due.same("what was undone does not count", x.undo(), 2);
        Due.same("the stone is there", x.at(0, 3), 0);
        Due.same("the stone is undone", x.undo(), 1);
        Due.same("ed is awake", x.editor(0, 2), 1);
        Due.same("the DAY is undone", x.undo(), 0);
        Due.same("no more", x.undo(), NONE);
    }

    private static void noneIs() {
        Due.promise(16, "NONE: none is.");
        RiverText x = Due.in(Due.LAND);
        Due.same("ahead of any", x.undo(), NONE);
        x.days(5);
        x.undo();
        Told.stays("no act to be undone", x, () -> Due.same("undo", x.undo(), NONE));
        x.days(5);
        Due.country(x, Due.LAND);
        Due.same("in a new COUNTRY", x.undo(), NONE);
        RiverText y = new RiverText();
        Due.same("without a COUNTRY", y.undo(), NONE);
        y.days(3);
        Due.same("DAYS without a COUNTRY", y.undo(), 0);
    }

    private static void allOfIt() {
        Due.promise(16, "that was done is undone:");
        RiverText x = Due.in(Due.LAND);
        x.days(37);
        x.wake(1, 0);
        x.stone(2, 1, 3);
        x.days(40);
        List<Integer> told = Told.by(x);
        int reads = x.well(1, 76);
        x.days(61);
        Due.same("days()", x.undo(), 3);
        Told.alike("days() undone", Told.by(x), told);
        Due.same("a DAY ahead of it is kept", x.well(1, 76), reads);
        Due.same("a DAY of it is not read yet", x.well(1, 77), -2);
        int stones = x.stones();
        x.drawn(61, 4);
        x.undo();
        Due.yes("stones stay told", x.stones() > stones);
        Due.same("drawn() undone: DAY", x.now(0), 77);
        Due.same("drawn() undone: a DAY ahead of it", x.well(1, 76), reads);
        x.days(3);
        Due.same("what is lived again is read again", x.well(1, 77), x.well(0, 75));
    }

    private static void notTheSentence() {
        Due.promise(16, "The latest of days() or drawn() that was above 0, wake(), stone(),");
        RiverText x = Due.in(Due.LAND);
        x.days(8);
        Due.sentence(x, "words > 0");
        Due.same("TOWNS", x.said(NONE), 3);
        x.feed(1, 2, 3, 4, 5);
        Due.same("days()", x.undo(), 0);
        Due.same("the SENTENCE is there, but nothing was read", x.said(NONE), 0);
        Due.same("the tape stays", x.count(6), 20);
    }

    private static void twoPlaces() {
        Due.promise(42, "COUNTRY, all that is so and the SENTENCE are kept in place k (0, 1): true;");
        RiverText x = Due.in("noun a;noun b;reach r 2;says r a b;editor e r 1;turn e b a;town t r 1;taste t b;");
        x.days(11);
        x.wake(0, 0);
        Due.sentence(x, "words > 9");
        List<Integer> first = Told.by(x);
        Due.yes("image(0)", x.image(0));
        Told.alike("an image changes nothing", Told.by(x), first);
        Due.same("acts stay", x.undo(), 1);
        Due.country(x, "noun a;reach r 1;");
        x.days(3);
        List<Integer> second = Told.by(x);
        Due.yes("image(1)", x.image(1));
        x.days(3);
        Due.yes("restore(0)", x.restore(0));
        Told.alike("place 0", Told.by(x), first);
        Due.yes("restore(1)", x.restore(1));
        Told.alike("place 1", Told.by(x), second);
        x.days(9);
        Due.yes("image(0) anew", x.image(0));
        List<Integer> third = Told.by(x);
        x.restore(1);
        Told.alike("place 1 still", Told.by(x), second);
        x.days(1);
        x.restore(0);
        Told.alike("place 0 anew", Told.by(x), third);
    }

    private static void noSuchPlace() {
        Due.promise(42, "true; false: no such one.");
        RiverText x = Due.in(Due.LAND);
        Told.stays("image() refused", x, () -> {
            for (int k : FAR) {
                Due.no("image(" + k + ")", x.image(k));
            }
        });
        for (int k = 0; k < 2; k++) {
            Due.no("nothing is kept in place " + k, x.restore(k));
        }
    }

    private static void allThatIsSo() {
        Due.promise(43, "They are as kept in place k");
        RiverText x = Due.in(Due.LAND);
        x.wake(1, 0);
        x.drawn(30, 7);
        Due.sentence(x, "not sense or words < 20");
        x.image(1);
        List<Integer> told = Told.by(x);
        int[] reads = new int[30];
        for (int day = 0; day < 30; day++) {
            reads[day] = x.well(day % 3, day);
        }
        Due.country(x, Texts.fullOfAll());
        x.days(99);
        Due.sentence(x, "number = 0");
        x.restore(1);
        Told.alike("all", Told.by(x), told);
        for (int day = 0; day < 30; day++) {
            Due.same("on DAY " + day, x.well(day % 3, day), reads[day]);
        }
        Due.same("not yet", x.well(0, 30), -2);
        Due.same("a SENTENCE", Due.sentence(x, "on main"), 1);
        Due.same("a REACH's NAME", x.said(NONE), 2);
        Due.same("a REACH's NAME", x.said(0), 1);
        Due.same("an EDITOR's NAME", Due.daybook(x, "mo wakes;ed sleeps;mo wakes;", 0), 2);
        Due.same("no names of the other one", Due.daybook(x, "ts reads a;", 0), -2);
    }

    private static void oneForTheOther() {
        Due.promise(43, "They are as kept in place k");
        for (int k = 0; k < 2; k++) {
            RiverText x = living(Texts.fullOfAll());
            x.image(0);
            Due.country(x, Due.LAND);
            x.days(20);
            x.image(1);
            for (int i = 0; i < 4; i++) {
                Due.yes("restore()", x.restore((i + k) % 2));
            }
            RiverText twin = k == 0 ? Due.in(Due.LAND) : living(Texts.fullOfAll());
            if (k == 0) {
                twin.days(20);
            }
            Told.alike("what is kept in place " + (1 - k), Told.by(x), Told.by(twin));
        }
        RiverText x = living(Texts.fullOfAll());
        x.image(0);
        Due.country(x, Due.LAND);
        x.restore(0);
        Due.same("the last NAMES", Due.daybook(x, "x wakes;tx reads none;w wakes;", 0), 2);
    }

    private static RiverText living(String land) {
        RiverText x = Due.in(land);
        x.days(30);
        x.wake(5, 0);
        return x;
    }

    private static void sentencesToo() {
        Due.promise(42, "and the SENTENCE are kept");
        String[] sentences = {"number > 1", "number < 1", "number = 1", "reads old", "on up", "words > 6 and not at > 1",
            "reads runs and number > 0"};
        int[] whose = {2, 0, 1, 1, 0, 0, 2};
        for (int i = 0; i < sentences.length; i++) {
            RiverText x = Due.in(Due.LAND);
            x.days(8);
            for (int k = 0; k < sentences.length; k++) {
                Due.sentence(x, sentences[i]);
                x.image(0);
                Due.sentence(x, sentences[k]);
                x.image(1);
                x.restore(0);
                Due.same(sentences[i] + " kept: how many", x.said(NONE), 1);
                Due.same(sentences[i] + " kept", x.said(0), whose[i]);
                x.restore(1);
                Due.same(sentences[k] + " kept: how many", x.said(NONE), 1);
                Due.same(sentences[k] + " kept", x.said(0), whose[k]);
            }
        }
    }

    private static void nothingIsKept() {
        Due.promise(43, "true; false: no such one, or nothing is kept there.");
        RiverText x = Due.in(Due.LAND);
        x.days(3);
        Told.stays("restore() refused", x, () -> {
            Due.no("restore(0)", x.restore(0));
            Due.no("restore(1)", x.restore(1));
            for (int k : FAR) {
                Due.no("restore(" + k + ")", x.restore(k));
            }
        });
        x.image(1);
        Due.no("nothing is kept in place 0", x.restore(0));
        Due.same("an act can still be undone", x.undo(), 0);
        Due.yes("it is in place 1", x.restore(1));
        Due.same("DAY", x.now(0), 3);
    }

    private static void whatStays() {
        Due.promise(43, "(the tape, and what other calls told last, stays;");
        RiverText x = Due.in(Due.LAND);
        x.image(0);
        x.drawn(40, 2);
        int stones = x.stones();
        Due.saying(x, 0, Due.FISH, Due.OLD);
        Due.daybook(x, "day 4;mo wakes;", 0);
        Due.sentence(x, "reads zz");
        x.feed(0x6e6f756e, 0x20613b20, 0, 0, 0);
        x.end(7);
        Due.yes("restore(0)", x.restore(0));
        Due.same("stones", x.stones(), stones);
        Due.same("saidAt(0)", x.saidAt(0), Due.KING);
        Due.same("saidAt(1)", x.saidAt(1), Due.OLD);
        Due.same("booked(0)", x.booked(0), 3);
        Due.same("booked(2)", x.booked(2), 44);
        Due.same("fault", x.fault(), 3);
        Due.same("bytes of the tape", x.count(6), 7);
        Due.same("which are the same", x.country(), 1);
    }

    private static void nothingCanBeUndone() {
        Due.promise(43, "nothing can be undone): true;");
        RiverText x = Due.in(Due.LAND);
        x.days(3);
        x.image(0);
        x.days(4);
        x.restore(0);
        Due.same("undo", x.undo(), NONE);
        Due.same("DAY", x.now(0), 3);
        x.days(2);
        Due.same("what was done since can be", x.undo(), 0);
        Due.same("DAY", x.now(0), 3);
    }

    private static void countries() {
        Due.promise(42, "COUNTRY, all that is so and the SENTENCE are kept");
        RiverText x = new RiverText();
        x.image(0);
        Due.country(x, Due.LAND);
        Due.sentence(x, "sense");
        x.image(1);
        x.restore(0);
        for (int what = 0; what < 6; what++) {
            Due.same("count(" + what + ") of the empty one", x.count(what), 0);
        }
        Due.same("no SENTENCE", x.said(NONE), NONE);
        Due.throwsNoSuch("no REACH", () -> x.at(0, 0));
        Due.country(x, "noun q;");
        Due.country(x, "noun q;?");
        x.restore(1);
        Due.same("the SENTENCE", x.said(NONE), 3);
        Due.same("a NAME", Due.sentence(x, "reads fish"), 1);
        Due.same("not that of another COUNTRY", Due.sentence(x, "reads q"), -7);
        Due.same("it can be told anew", Due.country(x, Due.LAND), 19);
        x.restore(1);
        Due.same("as kept", x.said(NONE), 3);
    }
}
