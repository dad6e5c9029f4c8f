/** The edges of a DAY, and of promises 12 (now), 13 (days), 14 (wake), 15 (stone), 17 (well), 18 (sense), 19 (sayings). */
final class EdgesOfDays {
    private static final int NONE = Due.NONE;
    private static final int[] FAR = {Integer.MIN_VALUE, -256, -3, 401, 1 << 16, 1 << 30, Integer.MAX_VALUE};

    private EdgesOfDays() { }

    static void run() {
        onePlaceOn();
        intoTheNext();
        againFromTheFirst();
        leastReachStays();
        forEachOther();
        editorsAreAwake();
        turnedOnce();
        thenTownsRead();
        daysAreKept();
        ofNow();
        anotherNow();
        howManyDid();
        daysNotAsTold();
        awakeAndAsleep();
        wakeRefused();
        stones();
        stoneRefused();
        readOnADay();
        notReadYet();
        noneLeftOut();
        asLongAsItCan();
        firstTermOfNoSense();
        noSenseOfNoTown();
        wholeSayings();
        noSayingsOfNoTown();
    }

    private static void row(String what, RiverText x, int r, int... due) {
        for (int place = 0; place < due.length; place++) {
            Due.same(what + ": at(" + r + ", " + place + ")", x.at(r, place), due[place]);
        }
    }

    private static void onePlaceOn() {
        Due.promise(13, "A DAY: all TERMS go one PLACE on;");
        RiverText x = Due.in("noun a;noun b;reach r 9;reach q 1;");
        x.stone(0, 0, 0);
        x.stone(0, 4, 1);
        x.stone(0, 8, 1);
        x.stone(1, 0, 1);
        x.days(1);
        row("behind a DAY", x, 0, NONE, 0, NONE, NONE, NONE, 1, NONE, NONE, NONE);
        row("behind a DAY", x, 1, NONE);
        x.days(3);
        row("behind four", x, 0, NONE, NONE, NONE, NONE, 0, NONE, NONE, NONE, 1);
        x.days(5);
        row("behind nine", x, 0, NONE, NONE, NONE, NONE, NONE, NONE, NONE, NONE, NONE);
        Due.same("TERMS that came into the sea", x.now(3), 4);
    }

    private static void intoTheNext() {
        Due.promise(13, "from the last PLACE of a REACH to the first one of that into which it flows (or into the sea).");
        RiverText x = Due.in("noun a;noun b;reach r 2;reach q 1 into r;reach p 3 into q;says p a b;");
        x.days(3);
        row("DAY 2", x, 2, 0, 1, 0);
        row("DAY 2", x, 1, NONE);
        x.days(1);
        row("DAY 3", x, 2, 1, 0, 1);
        row("DAY 3", x, 1, 0);
        x.days(1);
        row("DAY 4", x, 1, 1);
        row("DAY 4", x, 0, 0, NONE);
        x.days(1);
        row("DAY 5", x, 0, 1, 0);
        Due.same("none in the sea yet", x.now(3), 0);
        x.days(1);
        Due.same("one in the sea", x.now(3), 1);
        Due.same("one for each PLACE on their way", x.now(1), 6);
    }

    private static void againFromTheFirst() {
        Due.promise(13, "(the first one on DAY 0, again from the first behind the last)");
        RiverText x = Due.in(Texts.TEN_TERMS + "reach r 1;reach q 1;reach p 1;says r a b c d e f g h i j a c;says q j;says p b i;");
        for (int day = 0; day < 37; day++) {
            x.days(1);
            int at = day % 12;
            Due.same("of 12, on DAY " + day, x.at(0, 0), at < 10 ? at : at == 10 ? 0 : 2);
            Due.same("of 1, on DAY " + day, x.at(1, 0), 9);
            Due.same("of 2, on DAY " + day, x.at(2, 0), day % 2 == 0 ? 1 : 8);
        }
    }

    private static void leastReachStays() {
        Due.promise(13, "If TERMS of some REACHES come to one PLACE: that of the least REACH stays;");
        RiverText x = Due.in("noun a;noun b;noun c;reach m 2;reach n 1 into m;reach o 1 into m;reach p 1 into m;"
                + "says p a;says o b;says n c;");
        x.days(3);
        row("of n", x, 0, 2, 2);
        x.stone(1, 0, NONE);
        x.days(1);
        row("n has none, so of o", x, 0, 1, 2);
        x.stone(1, 0, NONE);
        x.stone(2, 0, NONE);
        x.days(1);
        row("o has none too, so of p", x, 0, 0, 1);
        x.stone(1, 0, NONE);
        x.stone(2, 0, NONE);
        x.stone(3, 0, NONE);
        x.days(1);
        row("none has one", x, 0, NONE, 0);
    }

    private static void forEachOther() {
        Due.promise(12, "for each other one that is unlike it there is a CLASH.");
        String land = "noun a;noun b;noun c;reach m 1;reach n 1 into m;reach o 1 into m;reach p 1 into m;";
        String[] says = {"n a;says o a;says p a;", "n a;says o a;says p b;", "n a;says o b;says p a;",
            "n a;says o b;says p b;", "n a;says o b;says p c;", "n a;", "o a;says p b;"};
        int[] due = {0, 1, 1, 2, 2, 0, 1};
        for (int i = 0; i < says.length; i++) {
            RiverText x = Due.in(land + "says " + says[i]);
            x.days(1);
            Due.same("none on DAY 0", x.now(2), 0);
            x.days(1);
            Due.same("on DAY 1 by " + says[i], x.now(2), due[i]);
            x.days(1);
            Due.same("by DAY 2 by " + says[i], x.now(2), 2 * due[i]);
        }
        RiverText y = Due.in("noun a;noun b;reach m 1;reach z 1;reach n 1 into m;reach o 1 into m;"
                + "reach p 1 into m;reach q 1 into m;reach r 1 into m;reach s 1 into m;"
                + "says n a;says o b;says p b;says q b;says r b;says s b;editor e m 0;turn e a b;");
        y.days(2);
        Due.same("of six, ahead of the EDITOR", y.now(2), 5);
        Due.same("the one that stays is turned then", y.at(0, 0), 1);
        RiverText z = Due.in("noun a;noun b;reach m 1;reach n 1;says m a;says n b;");
        z.days(9);
        Due.same("none in the sea", z.now(2), 0);
    }

    private static void editorsAreAwake() {
        Due.promise(14, "Then each EDITOR who is awake (all are at first)");
        RiverText x = Due.in("noun a;noun b;reach r 6;says r a;editor e r 0;editor f r 1;editor g r 2;editor h r 3;"
                + "editor i r 4;editor j r 5;turn e a b;turn f b a;turn g a b;turn h b a;turn i a b;strike j b;");
        for (int e = 0; e < 6; e++) {
            Due.same("awake at first", x.editor(e, 2), 1);
        }
        x.days(6);
        row("behind DAY 5", x, 0, 1, 0, 1, 0, 1, NONE);
        Due.same("turned", x.now(5), 6 + 5 + 4 + 3 + 2);
        Due.same("struck", x.now(4), 1);
        x.wake(2, 0);
        x.days(1);
        row("g sleeps", x, 0, 1, 0, 0, 0, 1, NONE);
        Due.same("none by g", x.editor(2, 4), 4);
    }

    private static void turnedOnce() {
        Due.promise(13, "a TERM at its PLACE that it strikes is gone, one that it turns is another one (once).");
        RiverText x = Due.in("noun a;noun b;noun c;noun d;reach r 1;says r a b c d;editor e r 0;"
                + "turn e a b;turn e b c;turn e c a;strike e d;");
        int[] due = {1, 2, 0, NONE};
        for (int day = 0; day < 8; day++) {
            x.days(1);
            Due.same("on DAY " + day, x.at(0, 0), due[day % 4]);
        }
        Due.same("turned", x.now(5), 6);
        Due.same("struck", x.now(4), 2);
        Due.same("what is struck does not come into the sea", x.now(3), 6);
    }

    private static void thenTownsRead() {
        Due.promise(13, "Then each TOWN reads what is at its PLACE (a TERM, or none).");
        RiverText x = Due.in("noun a;noun b;reach r 2;says r a b;editor e r 0;strike e a;turn e b a;"
                + "town t r 0;town u r 1;town v r 1;");
        x.days(4);
        int[] there = {NONE, 0, NONE, 0};
        int[] below = {NONE, NONE, 0, NONE};
        for (int day = 0; day < 4; day++) {
            Due.same("behind the EDITOR there on DAY " + day, x.well(0, day), there[day]);
            Due.same("below on DAY " + day, x.well(1, day), below[day]);
            Due.same("two TOWNS at one PLACE on DAY " + day, x.well(2, day), below[day]);
        }
    }

    private static void daysAreKept() {
        Due.promise(17, "DAYS 0 to 399; what was read on each is kept.");
        int[] ofQ = {9, 0, 8};
        for (int t = 0; t < 6; t++) {
            RiverText x = Due.in(Texts.TEN_TERMS + "reach r 1;says r a b c d e f g h i j;reach q 2;says q j a i;"
                    + "town t r 0;town u q 0;town v q 1;town w r 0;town y q 1;town z r 0;");
            for (int i = 0; i < 5; i++) {
                x.days(80);
            }
            boolean isOnR = t % 3 == 0 || t == 5;
            int later = t == 1 ? 0 : 1;
            for (int day = 0; day < 400; day++) {
                int due = isOnR ? day % 10 : day < later ? NONE : ofQ[(day - later) % 3];
                Due.same("TOWN " + t + " on DAY " + day, x.well(t, day), due);
            }
            Due.same("TERMS read", x.town(t, 3), isOnR ? 400 : 400 - later);
            Due.same("there is no DAY 400", x.well(t, 400), -2);
        }
    }

    private static void ofNow() {
        Due.promise(12, "0 the next DAY (400: all are over), 1 TERMS on their way,");
        RiverText x = Due.in("noun a;noun b;reach r 3;says r a b;editor e r 2;strike e b;turn e a b;");
        int[] onTheirWay = {0, 1, 2, 3, 2, 3, 2};
        int[] sea = {0, 0, 0, 0, 1, 1, 2};
        int[] struck = {0, 0, 0, 0, 1, 1, 2};
        int[] turned = {0, 0, 0, 1, 1, 2, 2};
        for (int day = 0; day < sea.length; day++) {
            Due.same("the next DAY", x.now(0), day);
            Due.same("TERMS on their way ahead of DAY " + day, x.now(1), onTheirWay[day]);
            Due.same("CLASHES", x.now(2), 0);
            Due.same("TERMS that came into the sea ahead of DAY " + day, x.now(3), sea[day]);
            Due.same("struck ahead of DAY " + day, x.now(4), struck[day]);
            Due.same("turned ahead of DAY " + day, x.now(5), turned[day]);
            x.days(1);
        }
        for (int i = 0; i < 4; i++) {
            x.days(98);
        }
        Due.same("the last DAY is next", x.now(0), 399);
        x.days(1);
        Due.same("all are over", x.now(0), 400);
        x.days(1);
        Due.same("all are over", x.now(0), 400);
    }

    private static void anotherNow() {
        Due.promise(12, "NONE for another what.");
        RiverText x = Due.in(Due.LAND);
        x.days(9);
        Due.same("now(6)", x.now(6), NONE);
        Due.same("now(-1)", x.now(-1), NONE);
        for (int what : FAR) {
            Due.same("now(" + what + ")", x.now(what), NONE);
        }
    }

    private static void howManyDid() {
        Due.promise(13, "n (1 to 99) DAYS go by: how many did;");
        RiverText x = Due.in(Due.LAND);
        Due.same("days(1)", x.days(1), 1);
        Due.same("days(99)", x.days(99), 99);
        Due.same("DAY", x.now(0), 100);
        x.days(99);
        x.days(99);
        Due.same("days(99)", x.days(99), 99);
        Due.same("DAY", x.now(0), 397);
        Due.same("fewer are left", x.days(4), 3);
        Due.same("DAY", x.now(0), 400);
        Told.stays("none is left", x, () -> {
            Due.same("days(1)", x.days(1), 0);
            Due.same("days(99)", x.days(99), 0);
        });
        x.undo();
        Due.same("just as many are left", x.days(3), 3);
        x.undo();
        Due.same("more are left", x.days(2), 2);
        Due.same("the last one", x.days(99), 1);
    }

    private static void daysNotAsTold() {
        Due.promise(13, "how many did; NONE: not as told.");
        RiverText x = Due.in(Due.LAND);
        x.days(3);
        Told.stays("DAYS not as told", x, () -> {
            Due.same("days(0)", x.days(0), NONE);
            Due.same("days(100)", x.days(100), NONE);
            Due.same("days(-1)", x.days(-1), NONE);
            for (int n : FAR) {
                Due.same("days(" + n + ")", x.days(n), NONE);
            }
        });
        Due.same("just one act", x.undo(), 0);
        for (int i = 0; i < 5; i++) {
            x.days(80);
        }
        Due.same("days(0) when all are over", x.days(0), NONE);
        Due.same("days(100) when all are over", x.days(100), NONE);
    }

    private static void awakeAndAsleep() {
        Due.promise(14, "An EDITOR is awake (1), asleep (0) from now on: true;");
        RiverText x = Due.in("noun a;noun b;reach r 1;reach q 1;says r a;says q a;editor e r 0;editor f q 0;turn e a b;turn f a b;");
        x.days(1);
        Due.yes("f falls asleep", x.wake(1, 0));
        Due.same("f sleeps", x.editor(1, 2), 0);
        Due.same("e does not", x.editor(0, 2), 1);
        Due.same("what was turned stays so", x.at(1, 0), 1);
        x.days(1);
        Due.same("e turns", x.at(0, 0), 1);
        Due.same("f does not", x.at(1, 0), 0);
        Due.yes("f wakes", x.wake(1, 1));
        Due.same("what went by stays so", x.at(1, 0), 0);
        x.days(1);
        Due.same("f turns", x.at(1, 0), 1);
        Due.yes("e falls asleep", x.wake(0, 0));
        Due.yes("f falls asleep", x.wake(1, 0));
        x.days(1);
        Due.same("neither turns", x.at(0, 0) + x.at(1, 0), 0);
    }

    private static void wakeRefused() {
        Due.promise(14, "false: no such ones, it is so already.");
        RiverText x = Due.in(Due.LAND);
        x.wake(1, 0);
        Told.stays("wake() refused", x, () -> {
            Due.no("wake(0, 1): it is so already", x.wake(0, 1));
            Due.no("wake(1, 0): it is so already", x.wake(1, 0));
            Due.no("wake(2, 0)", x.wake(2, 0));
            Due.no("wake(2, 1)", x.wake(2, 1));
            Due.no("wake(-1, 0)", x.wake(-1, 0));
            Due.no("wake(-1, 1)", x.wake(-1, 1));
            for (int e = 0; e < 2; e++) {
                Due.no("wake(" + e + ", 2)", x.wake(e, 2));
                Due.no("wake(" + e + ", -1)", x.wake(e, -1));
            }
            for (int far : FAR) {
                Due.no("wake(" + far + ", 0)", x.wake(far, 0));
                Due.no("wake(" + far + ", 1)", x.wake(far, 1));
                Due.no("wake(0, " + far + ")", x.wake(0, far));
                Due.no("wake(1, " + far + ")", x.wake(1, far));
            }
        });
        Due.same("just one act", x.undo(), 0);
    }

    private static void stones() {
        Due.promise(15, "The TERM at a PLACE is another one (NONE: none) from now on: true;");
        RiverText x = Due.in(Texts.TEN_TERMS + "reach r 2;reach q 9 into r;says q a;editor x q 4;strike x b;");
        Due.yes("the last TERM at the last PLACE", x.stone(1, 8, 9));
        Due.yes("the first one at the first one", x.stone(0, 0, 0));
        row("q", x, 1, NONE, NONE, NONE, NONE, NONE, NONE, NONE, NONE, 9);
        row("r", x, 0, 0, NONE);
        Due.yes("another one", x.stone(0, 0, 5));
        Due.yes("none", x.stone(0, 0, NONE));
        row("r", x, 0, NONE, NONE);
        Due.yes("one where an EDITOR is", x.stone(1, 4, 1));
        Due.same("who reads it on a DAY only", x.at(1, 4), 1);
        x.days(1);
        Due.same("so it is behind the EDITOR then", x.at(1, 5), 1);
        Due.same("the one at the last PLACE went on", x.at(0, 0), 9);
        Due.same("none is struck", x.now(4), 0);
        Due.yes("at a PLACE that went round", x.stone(1, 3, 1));
        x.days(1);
        Due.same("it comes to the EDITOR", x.at(1, 4), NONE);
        Due.same("it is struck", x.now(4), 1);
    }

    private static void stoneRefused() {
        Due.promise(15, "false: no such ones, it is so already.");
        RiverText x = Due.in("noun a;noun b;reach r 2;reach q 3;says q a;");
        x.days(2);
        Told.stays("stone() refused", x, () -> {
            Due.no("it is so already", x.stone(1, 0, 0));
            Due.no("it is so already: none", x.stone(1, 2, NONE));
            Due.no("it is so already: none", x.stone(0, 0, NONE));
            Due.no("no such REACH", x.stone(2, 0, 0));
            Due.no("no such REACH", x.stone(-1, 0, 0));
            Due.no("no such PLACE", x.stone(0, 2, 0));
            Due.no("no such PLACE", x.stone(1, 3, NONE));
            Due.no("no such PLACE", x.stone(1, -1, 0));
            Due.no("no such TERM", x.stone(1, 0, 2));
            Due.no("no such TERM", x.stone(1, 0, -2));
            for (int far : FAR) {
                Due.no("stone(" + far + ", 0, 0)", x.stone(far, 0, 0));
                Due.no("stone(0, " + far + ", 0)", x.stone(0, far, 0));
                Due.no("stone(0, 0, " + far + ")", x.stone(0, 0, far));
            }
        });
        Due.same("just one act", x.undo(), 0);
        Due.no("no COUNTRY", new RiverText().stone(0, 0, NONE));
        Due.no("a COUNTRY without TERMS", Due.in("reach r 1;").stone(0, 0, 0));
    }

    private static void readOnADay() {
        Due.promise(17, "What a TOWN read on a DAY: the TERM, NONE: none;");
        RiverText x = Due.in("noun a;noun b;reach r 2;says r a b;town t r 1;town u r 0;");
        x.days(3);
        x.wake(0, 0);
        x.stone(0, 1, NONE);
        int[] first = {NONE, 0, 1};
        int[] second = {0, 1, 0};
        for (int day = 0; day < 3; day++) {
            Due.same("well(0, " + day + ")", x.well(0, day), first[day]);
            Due.same("well(1, " + day + ")", x.well(1, day), second[day]);
        }
    }

    private static void notReadYet() {
        Due.promise(17, "-2: no such ones (yet).");
        RiverText x = Due.in("noun a;reach r 1;says r a;town t r 0;town u r 0;");
        Due.same("ahead of DAY 0", x.well(1, 0), -2);
        x.days(5);
        Due.same("well(1, 4)", x.well(1, 4), 0);
        Due.same("not yet", x.well(1, 5), -2);
        Due.same("not yet", x.well(1, 399), -2);
        Due.same("no such DAY", x.well(1, 400), -2);
        Due.same("no such DAY", x.well(1, -1), -2);
        Due.same("no such TOWN", x.well(2, 0), -2);
        Due.same("no such TOWN", x.well(-1, 0), -2);
        for (int far : FAR) {
            Due.same("well(1, " + far + ")", x.well(1, far), -2);
            Due.same("well(" + far + ", 1)", x.well(far, 1), -2);
        }
        x.undo();
        Due.same("a DAY that was undone", x.well(1, 0), -2);
    }

    /** A TOWN that reads these TERMS by their SORT, n, v, l, s; what is none is struck ahead of it: - */
    private static RiverText reading(String sorts) {
        String says = "";
        for (char c : sorts.toCharArray()) {
            says += " " + (c == '-' ? 'z' : c);
        }
        RiverText x = Due.in("noun n;verb v;like l;stop s;noun z;reach r 1;says r" + says + ";editor e r 0;strike e z;town t r 0;");
        x.days(sorts.length());
        return x;
    }

    private static void noneLeftOut() {
        Due.promise(18, "SENSE: all that a TOWN read (none left out)");
        Due.same("none ahead", reading("--nvs").sense(0), NONE);
        Due.same("none within", reading("-n--v-s-").sense(0), NONE);
        Due.same("DAYS of none count as DAYS", reading("-n--v-n-n").sense(0), 8);
        Due.same("SAYINGS", reading("-n--v-s-").sayings(0), 1);
    }

    private static void asLongAsItCan() {
        Due.promise(18, "it makes sense, as long as it can still be so.");
        String[] whole = {"n", "nv", "nvs", "nvn", "nvns", "nvl", "nvln", "nvlns", "nvlllns", "l", "ll", "ln", "lnvs",
            "lllnvlns", "nvsn", "nvsnvs", "nvsl", "nvslnvns", "nvnslllnvs", "nvsnvsnvsnv"};
        for (String sorts : whole) {
            Due.same("sense of " + sorts, reading(sorts).sense(0), NONE);
        }
        String[] broken = {"v", "s", "nn", "nl", "ns", "lv", "ls", "nvv", "nvlv", "nvls", "nvlls", "nvllv", "nvnn", "nvnv", "nvnl", "nvss",
            "nvsv", "nvsnn", "nvslv", "nvnsnn", "nvlnv", "nvlnl"};
        for (String sorts : broken) {
            Due.same("sense of " + sorts, reading(sorts).sense(0), sorts.length() - 1);
        }
    }

    private static void firstTermOfNoSense() {
        Due.promise(18, "The DAY of the first TERM that a TOWN read by which it makes no sense any more; NONE: there is none;");
        RiverText x = Due.in("noun n;verb v;stop s;reach r 3;says r n v s v n v s;town t r 2;town u r 0;");
        Due.same("nothing was read", x.sense(0), NONE);
        x.days(5);
        Due.same("not yet", x.sense(0), NONE);
        Due.same("above it is so already", x.sense(1), 3);
        x.days(1);
        Due.same("it came there two DAYS later", x.sense(0), 5);
        x.days(30);
        Due.same("it stays so, whatever comes", x.sense(0), 5);
        Due.same("on DAY 0", reading("vnvs").sense(0), 0);
    }

    private static void noSenseOfNoTown() {
        Due.promise(18, "NONE: there is none; -2: no such one.");
        RiverText x = Due.in("reach r 1;town t r 0;town u r 0;");
        Due.same("sense(1)", x.sense(1), NONE);
        Due.same("sense(2)", x.sense(2), -2);
        Due.same("sense(-1)", x.sense(-1), -2);
        for (int t : FAR) {
            Due.same("sense(" + t + ")", x.sense(t), -2);
        }
    }

    private static void wholeSayings() {
        Due.promise(19, "SAYINGS that a TOWN read whole, up to where it makes sense;");
        String[] sorts = {"n", "nv", "nvs", "nvsn", "nvsnvs", "nvnslnvlns", "nvsvsnvs", "nvsnn", "s", "nvss", "nvnvs"};
        int[] due = {0, 0, 1, 1, 2, 2, 1, 1, 0, 1, 0};
        for (int i = 0; i < sorts.length; i++) {
            Due.same("sayings of " + sorts[i], reading(sorts[i]).sayings(0), due[i]);
        }
        RiverText x = reading("nvs");
        for (int i = 0; i < 5; i++) {
            x.days(99);
        }
        Due.same("of 400 DAYS", x.sayings(0), 133);
    }

    private static void noSayingsOfNoTown() {
        Due.promise(19, "up to where it makes sense; NONE: no such one.");
        RiverText x = Due.in("reach r 1;town t r 0;town u r 0;");
        Due.same("sayings(1)", x.sayings(1), 0);
        Due.same("sayings(2)", x.sayings(2), NONE);
        Due.same("sayings(-1)", x.sayings(-1), NONE);
        for (int t : FAR) {
            Due.same("sayings(" + t + ")", x.sayings(t), NONE);
        }
    }
}
