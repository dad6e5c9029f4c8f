import java.util.List;

/** The edges of promises 4 (country) and 5 (fault): what a text is, and each FAULT at its place. */
final class EdgesOfTexts {
    private static final int NONE = Due.NONE;

    private EdgesOfTexts() { }

    static void run() {
        words();
        numbers();
        blanksBetween();
        otherSigns();
        goesOnAsLong();
        bytesOfACountry();
        readWhole();
        theEnd();
        lines();
        firstAlongTheText();
        leastOfOneToken();
        theTapeIsEmptyThen();
        howManyLines();
        lessThePlace();
        itStays();
        theLatestFault();
        leftByAnotherLives();
        noFault();
        newCountry();
        oneBehindAnother();
        toldLastStays();
    }

    private static void words() {
        Due.promise(4, "WORDS: small letters, 1 to 7");
        Texts.good("noun a;noun z;noun abcdefg;", 3);
        Texts.bad("noun ^abcdefgh;", 1);
        Texts.bad("noun ^abcdefghijklmnop;", 1);
        Texts.bad("^;", 1);
        for (char c : new char[] {'`', '{', 'A', 'Z', '_', (char) 223, (char) 233}) {
            Texts.bad("noun ^" + c + ";", 1);
            Texts.bad("noun a^" + c + ";", 1);
        }
    }

    private static void numbers() {
        Due.promise(4, "NUMBERS: 1 to 3 digits");
        Texts.good("reach a 9;reach b 09;reach c 009;", 3);
        Texts.bad("reach a ^0009;", 1);
        Texts.bad("reach a ^4294967297;", 1);
        Texts.bad("reach a ^/;", 1);
        Texts.bad("reach a ^:;", 1);
        Texts.bad("reach a ^-1;", 1);
        Texts.bad("reach a 1^.0;", 1);
    }

    private static void blanksBetween() {
        Due.promise(4, "with blanks (32, 10) between them or not");
        Texts.good("noun a;noun b;reach r 1;says r a b;", 4);
        Texts.good("\n \n noun\n\na \n ;reach\nr\n1\n;\n\n ", 2);
        for (char c : new char[] {0, 9, 11, 12, 13, 31, 33, 133, 160}) {
            Texts.bad("noun^" + c + "a;", 1);
            Texts.bad("noun a;^" + c, 1);
        }
    }

    private static void otherSigns() {
        Due.promise(4, "; < = > ( ) .");
        for (String sign : new String[] {"<", "=", ">", "(", ")", ".", ",", ":", "?"}) {
            Texts.bad("^" + sign, 1);
            Texts.bad("noun ^" + sign + ";", 1);
            Texts.bad("noun a^" + sign + ";", 1);
            Texts.bad("reach r ^" + sign + ";", 1);
            Texts.bad("noun a;^" + sign, 1);
        }
    }

    private static void goesOnAsLong() {
        Due.promise(4, "A WORD, NUMBER goes on as long as small letters and digits do; what is not as told is no TOKEN.");
        Texts.bad("noun ^a1;", 1);
        Texts.bad("noun ^1a;", 1);
        Texts.bad("^noun1 a;", 1);
        Texts.bad("^nouna;", 1);
        Texts.bad("reach r ^1a;", 1);
        Texts.bad("reach q 1;reach r ^1into q;", 1);
        Texts.bad("noun ab;noun ^ab1;", 1);
        Texts.bad("reach r ^12a4;", 1);
        Texts.bad("noun a ^a1;", 1);
        Texts.bad("noun a ^1a;", 1);
        Texts.bad("noun a ^1;", 1);
        Texts.bad("noun a;^1a;", 1);
    }

    private static void bytesOfACountry() {
        Due.promise(4, "A COUNTRY is a text of at most 900 bytes");
        Texts.good("noun a;" + Texts.blanks(893), 1);
        Texts.good(Texts.blanks(893) + "noun a;", 1);
        Texts.good(Texts.blanks(900), 0);
        Texts.bad("noun a;" + Texts.blanks(893) + "^ ", 1);
        Texts.bad(Texts.blanks(894) + "noun a^;", 1);
        Texts.bad(Texts.blanks(900) + "^ ", 1);
        Texts.bad(Texts.blanks(900) + "^;", 1);
        Texts.bad(Texts.blanks(900) + "^" + Texts.blanks(40), 1);
    }

    private static void readWhole() {
        Due.promise(4, "the most bytes told, if there are more and no FAULT is ahead: TOKENS that begin ahead of it are read whole");
        String ahead = "noun ab;" + Texts.blanks(886);
        Texts.bad(ahead + "noun ^ab;", 3);
        Texts.bad(ahead + "noun ^abcdefgh;", 1);
        Texts.bad(ahead + "noun ^a1;", 1);
        Texts.bad(ahead + "noun x^yz;", 1);
        Texts.bad(ahead + "noun x^yz", 1);
        Texts.bad(ahead + " noun ^ab;", 1);
        Texts.bad(Texts.blanks(891) + "reach r ^10;", 2);
        Texts.bad(Texts.blanks(891) + "reach r 1^;", 1);
        Texts.bad(Texts.blanks(899) + "^nounn a;", 1);
        Texts.bad(Texts.blanks(899) + "n^oun a;", 1);
        Texts.bad("noun ^A;" + Texts.blanks(900), 1);
        Texts.bad("reach r ^0;" + Texts.blanks(900), 2);
        Texts.bad("noun a" + Texts.blanks(894) + "^;", 1);
    }

    private static void theEnd() {
        Due.promise(4, "the end: how many bytes there are");
        for (String text : new String[] {"noun", "noun ", "noun a", "noun a\n ", "reach r", "reach r 1", "reach r 1 into",
            "noun a;reach r 1;says", "noun a;reach r 1;says r", "noun a;reach r 1;says r a", "editor", "strike", "town",
            "noun a;noun"}) {
            Texts.bad(text + "^", 1);
        }
        Texts.bad("noun a" + Texts.blanks(894) + "^", 1);
        RiverText x = new RiverText();
        for (int n = 6; n < 12; n++) {
            // noun abcdef  ;  what is cut off is not read
            x.feed(0x6e6f756e, 0x20616263, 0x64656620, 0x203b2020, 0x20202020);
            x.end(n);
            Due.same("the end of " + n + " bytes", x.country(), -1 - n);
        }
        x.feed(0x6e6f756e, 0x20616263, 0x64656667, 0x683b2020, 0x20202020);
        x.end(12);
        Due.same("the end of 12 bytes", x.country(), -13);
    }

    private static void lines() {
        Due.promise(4, "{ LINE ; }");
        Texts.good("", 0);
        Texts.good(" \n ", 0);
        Texts.bad("noun a;^;", 1);
        Texts.bad("^; noun a;", 1);
        Texts.bad("noun a ^noun b;", 1);
        Texts.bad("noun a ^b;", 1);
        for (String word : new String[] {"a", "into", "day", "reads", "none", "wakes", "sleeps", "or", "and", "not", "on",
            "sense", "at", "words", "liked", "number", "5"}) {
            Texts.bad("noun a;^" + word + " b;", 1);
        }
    }

    private static void firstAlongTheText() {
        Due.promise(4, "FAULTS, the first along the text");
        Texts.bad("noun ^A;reach r 0;noun a;noun a;", 1);
        Texts.bad("reach r ^0;noun A;", 2);
        Texts.bad("noun a;verb ^a;reach r 0;noun A;", 3);
        Texts.bad(Texts.TEN_TERMS + "^noun A;", 4);
        Texts.bad(Texts.TEN_TERMS + "^noun a", 4);
        Texts.bad("reach r ^0 into q;", 2);
        Texts.bad("reach r 1;editor ^r q 5;", 3);
        Texts.bad("reach r 1;reach ^r 0;", 3);
    }

    private static void leastOfOneToken() {
        Due.promise(4, "of one TOKEN the least");
        String says = "noun a;reach r 1;says r" + Due.times(12, " a");
        Texts.bad(says + " ^a;", 4);
        Texts.bad(says + " ^b;", 3);
        Texts.bad(says + " ^r;", 3);
        Texts.bad(says + " ^noun;", 1);
        Texts.bad(says + " ^5;", 1);
        Texts.bad("reach r 1;editor e r 0;editor f r ^1;", 2);
        Texts.bad(Texts.TEN_TERMS + "^nouns k;", 1);
    }

    private static void theTapeIsEmptyThen() {
        Due.promise(4, "The tape (empty then, with a FAULT, too, here and below)");
        RiverText x = Due.in(Due.LAND);
        Due.same("behind a COUNTRY", x.count(6), 0);
        Due.country(x, "noun A;");
        Due.same("behind a FAULT", x.count(6), 0);
        Due.country(x, Texts.blanks(940));
        Due.same("behind too many bytes", x.count(6), 0);
        Due.daybook(x, "day 1;", 0);
        Due.same("behind a DAYBOOK judged", x.count(6), 0);
        Due.daybook(x, "day 1;", 1);
        Due.same("behind a DAYBOOK lived", x.count(6), 0);
        Due.daybook(x, "day 0;", 1);
        Due.same("behind a DAYBOOK's FAULT", x.count(6), 0);
        Due.sentence(x, "sense");
        Due.same("behind a SENTENCE", x.count(6), 0);
        Due.sentence(x, "sense sense");
        Due.same("behind a SENTENCE's FAULT", x.count(6), 0);
        rowsToo(x);
    }

    private static void rowsToo(RiverText x) {
        int[][] rows = {{1}, {9}, new int[16], new int[100]};
        for (int[] row : rows) {
            for (int town = -1; town <= 3; town++) {
                Due.saying(x, town, row);
                Due.same("behind a saying()", x.count(6), 0);
                Due.wish(x, town, row);
                Due.same("behind a wish()", x.count(6), 0);
            }
            Due.most(x, row);
            Due.same("behind a most()", x.count(6), 0);
        }
    }

    private static void howManyLines() {
        Due.promise(4, "is the COUNTRY now: how many LINES");
        Texts.good("", 0);
        Texts.good("noun a;", 1);
        Texts.good(Texts.fullOfAll(), 70);
        RiverText x = Due.in(Texts.fullOfAll());
        int[] due = {10, 8, 6, 20, 6, 12};
        for (int what = 0; what < due.length; what++) {
            Due.same("count(" + what + ") of a full COUNTRY", x.count(what), due[what]);
        }
        Due.same("once more", Due.country(x, Texts.fullOfAll()), 70);
        Due.same("an empty one instead", Due.country(x, ""), 0);
        Due.same("its TERMS", x.count(0), 0);
    }

    private static void lessThePlace() {
        Due.promise(4, "-1 less the place of a FAULT");
        Due.same("at the first byte", Due.country(new RiverText(), ";"), -1);
        Due.same("at the second byte", Due.country(new RiverText(), " ;"), -2);
        Due.same("at the most", Due.country(new RiverText(), Texts.blanks(901)), -901);
    }

    private static void itStays() {
        Due.promise(4, "place of a FAULT: it stays.");
        String[] faulty = {"noun A;", "noun zz;noun yy;reach r 0;", Due.LAND + "noun king;", "says up king;", ";"};
        int[] kinds = {1, 2, 3, 3, 1};
        for (int i = 0; i < faulty.length; i++) {
            itStaysBy(faulty[i], kinds[i]);
        }
    }

    private static void itStaysBy(String faulty, int kind) {
        RiverText x = Due.in(Due.LAND);
        x.days(8);
        Due.sentence(x, "on main");
        x.wake(1, 0);
        Due.country(x, ";");
        Told.stays(faulty, x, () -> {
            Due.country(x, faulty);
            Due.same("the kind of the FAULT", x.fault(), kind);
            Due.country(x, ";");
        });
        Due.same("the SENTENCE stays", x.said(NONE), 2);
        Due.same("names stay", Due.daybook(x, "mo wakes;ta reads runs;", 0), NONE);
        Due.same("a name of the refused one is not told", Due.sentence(x, "reads zz"), -7);
        Due.same("acts stay", x.undo(), 1);
        Due.same("mo is awake again", x.editor(1, 2), 1);
    }

    private static void theLatestFault() {
        Due.promise(5, "The kind of the FAULT of the latest country(), daybook() or sentence()");
        RiverText x = Due.in(Due.LAND);
        Due.country(x, "noun A;");
        Due.same("of a COUNTRY", x.fault(), 1);
        Due.daybook(x, "day 0;", 0);
        Due.same("of a DAYBOOK", x.fault(), 2);
        Due.sentence(x, "reads zz");
        Due.same("of a SENTENCE", x.fault(), 3);
        Due.country(x, Texts.TEN_TERMS + "noun k;");
        Due.same("of a COUNTRY", x.fault(), 4);
        x.days(1);
        Due.saying(x, 0, 77);
        Due.most(x, 77);
        x.undo();
        x.image(0);
        x.restore(0);
        Due.same("other calls leave it", x.fault(), 4);
    }

    private static void leftByAnotherLives() {
        Due.promise(5, "(a daybook() of -1000 leaves it)");
        RiverText x = Due.in(Due.LAND);
        Due.daybook(x, "day 0;", 0);
        for (int lives : new int[] {2, -1, Integer.MIN_VALUE, Integer.MAX_VALUE}) {
            Due.layText(x, "zz reads;");
            Due.same("daybook(" + lives + ")", x.daybook(lives), -1000);
            Due.same("fault", x.fault(), 2);
        }
        Due.daybook(x, "day 1;", 0);
        x.daybook(2);
        Due.same("none is left too", x.fault(), 0);
    }

    private static void noFault() {
        Due.promise(5, "0 without one and ahead of any.");
        RiverText x = new RiverText();
        Due.same("ahead of any", x.fault(), 0);
        x.daybook(2);
        Due.same("ahead of any", x.fault(), 0);
        Due.country(x, ";");
        Due.country(x, Due.LAND);
        Due.same("without one in a COUNTRY", x.fault(), 0);
        Due.country(x, ";");
        Due.daybook(x, "", 0);
        Due.same("without one in a DAYBOOK", x.fault(), 0);
        Due.country(x, ";");
        Due.daybook(x, "ed wakes;", 1);
        Due.same("a LINE that is WRONG is no FAULT", x.fault(), 0);
        Due.country(x, ";");
        Due.sentence(x, "sense");
        Due.same("without one in a SENTENCE", x.fault(), 0);
    }

    private static void newCountry() {
        Due.promise(4, "DAY 0 is next, all REACHES empty, all EDITORS awake, no SENTENCE; nothing can be undone");
        RiverText x = Due.in(Due.LAND);
        List<Integer> fresh = Told.by(x);
        Due.sentence(x, "sense");
        x.stone(0, 3, Due.KING);
        x.days(99);
        x.wake(0, 0);
        x.wake(1, 0);
        Due.country(x, Due.LAND);
        Told.alike("a new COUNTRY", Told.by(x), fresh);
        Due.same("no SENTENCE", x.said(NONE), NONE);
        Due.same("nothing can be undone", x.undo(), NONE);
        Due.same("no DAY is read", x.well(0, 0), -2);
        Due.country(x, "");
        Due.same("an empty one: the next DAY", x.now(0), 0);
        Due.same("an empty one: nothing can be undone", x.undo(), NONE);
    }

    private static void oneBehindAnother() {
        Due.promise(4, "The tape (empty then, with a FAULT, too, here and below) is the COUNTRY now:");
        String[] lands = {Due.LAND, Texts.fullOfAll(), "noun z;noun y;reach r 9;reach q 3;reach p 1;says p y;editor e r 0;"
            + "editor f q 0;town t r 0;town s p 0;town u q 0;", "stop a;reach r 1;reach q 1 into r;town t r 0;", ""};
        for (int i = 0; i < 50; i++) {
            RiverText x = new RiverText();
            Due.country(x, lands[i % 5]);
            x.days(15);
            if (i % 2 == 0) {
                Due.country(x, lands[i % 3] + "?");
            }
            Due.country(x, lands[i / 5 % 5]);
            x.days(15);
            if (i % 3 == 0) {
                Due.country(x, lands[i % 4] + "noun");
            }
            RiverText fresh = new RiverText();
            String last = lands[(i / 25 + i) % 5];
            Due.same("LINES", Due.country(x, last), Due.country(fresh, last));
            if (i >= 25) {
                x.days(15);
                fresh.days(15);
            }
            Told.alike("it is as by a new object", Told.by(x), Told.by(fresh));
        }
    }

    private static void toldLastStays() {
        Due.promise(4, "(what other calls told last stays)");
        RiverText x = Due.in(Due.LAND);
        x.drawn(40, 3);
        int stones = x.stones();
        Due.yes("there are stones", stones > 0);
        Due.saying(x, 0, Due.DOT, Due.RUNS);
        Due.daybook(x, "mo sleeps;day 3;mo sleeps;", 1);
        Due.country(x, "noun a;");
        Due.same("stones()", x.stones(), stones);
        Due.same("saidAt(0)", x.saidAt(0), Due.DOT);
        Due.same("saidAt(1)", x.saidAt(1), Due.RUNS);
        Due.same("saidAt(2)", x.saidAt(2), NONE);
        Due.same("booked(0)", x.booked(0), 3);
        Due.same("booked(1)", x.booked(1), 2);
        Due.same("booked(2)", x.booked(2), 43);
    }
}
