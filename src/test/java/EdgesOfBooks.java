/** The edges of promises 38 (daybook) and 39 (booked). */
final class EdgesOfBooks {
    private static final int NONE = Due.NONE;
    private static final int[] FAR = {Integer.MIN_VALUE, -1000, -256, -2, -1, 4, 1 << 16, Integer.MAX_VALUE};

    private EdgesOfBooks() { }

    static void run() {
        bytes();
        thirtyLines();
        oneToNinetyNine();
        whoReads();
        whoWakes();
        faultsAlong();
        nothingIsLivedByAFault();
        lessThePlace();
        judged();
        livedAsFar();
        theLineThatIsWrong();
        anotherLives();
        fewerDaysAreLeft();
        somethingElseLast();
        soAlready();
        notWrong();
        linesAhead();
        theDayThen();
        clashesInIt();
        ofTheLatest();
        aheadOfAny();
    }

    private static void bytes() {
        Due.promise(38, "A DAYBOOK is a text of at most 400 bytes: { LINE ; }, 30 at most:");
        Texts.goodBook("", 0);
        Texts.goodBook(" \n ", 0);
        Texts.goodBook("day 1;" + Texts.blanks(394), 1);
        Texts.goodBook(Texts.blanks(394) + "day 1;", 1);
        Texts.badBook("day 1;" + Texts.blanks(394) + "^ ", 1);
        Texts.badBook(Texts.blanks(395) + "day 1^;", 1);
        Texts.badBook(Texts.blanks(400) + "^;", 1);
        Texts.badBook(Texts.blanks(394) + "ta rea^ds old;", 1);
        Texts.badBook(Texts.blanks(397) + "ed ^sleeps;", 1);
        Texts.badBook(Texts.blanks(396) + "ed s^leeps;", 1);
        Texts.badBook(Texts.blanks(395) + "day ^100;", 2);
        Texts.badBook(Texts.blanks(396) + "ta ^sreads;", 1);
        Texts.badBook("day ^0;" + Texts.blanks(400), 2);
        Texts.badBook("day 1^", 1);
        Texts.badBook("day 1" + Texts.blanks(395) + "^", 1);
        Texts.badBook("day^", 1);
        Texts.badBook("ta^", 1);
        Texts.badBook("ta reads^", 1);
        Texts.badBook("ed wakes^", 1);
        Texts.badBook("^;", 1);
        Texts.badBook("day 1;^;", 1);
    }

    private static void thirtyLines() {
        Due.promise(38, "30 at most:");
        Texts.goodBook(Due.times(30, "day 9;"), 30);
        Texts.badBook(Due.times(30, "day 9;") + "^day 9;", 4);
        Texts.badBook(Due.times(30, "day 9;") + "^day 0;", 4);
        Texts.badBook(Due.times(30, "day 9;") + "^ta", 4);
        Texts.badBook(Due.times(30, "day 9;") + "^ed wakes;", 4);
        Texts.badBook(Due.times(30, "day 9;") + "^zz wakes;", 3);
        Texts.badBook(Due.times(30, "day 9;") + "^fish wakes;", 3);
        Texts.badBook(Due.times(30, "day 9;") + "^noun;", 1);
        Texts.badBook(Due.times(30, "day 9;") + "^;", 1);
        Texts.goodBook(Due.times(15, "ed sleeps;ed wakes;"), 30);
        Texts.goodBook(Due.times(28, "ta reads none;"), 28);
    }

    private static void oneToNinetyNine() {
        Due.promise(38, "'day' N (1 to 99 go by)");
        Texts.goodBook("day 1;", 1);
        Texts.goodBook("day 99;", 1);
        Texts.goodBook("day 099;", 1);
        Texts.badBook("day ^0;", 2);
        Texts.badBook("day ^100;", 2);
        Texts.badBook("day ^999;", 2);
        Texts.badBook("day ^0001;", 1);
        Texts.badBook("day ^ta;", 1);
        Texts.badBook("day ^;", 1);
        Texts.badBook("day 1 ^1;", 1);
        RiverText x = Due.in(Due.LAND);
        Due.daybook(x, "day 99;day 1;", 1);
        Due.same("DAYS that went by", x.now(0), 100);
    }

    private static void whoReads() {
        Due.promise(38, "TOWN 'reads' ( TERM | 'none' )");
        Texts.goodBook("ta reads none;", 1);
        Texts.badBook("ta ^none;", 1);
        Texts.badBook("ta ^wakes;", 1);
        Texts.badBook("ta reads ^zz;", 3);
        Texts.badBook("ta reads ^main;", 3);
        Texts.badBook("ta reads ^ed;", 3);
        Texts.badBook("ta reads ^tb;", 3);
        Texts.badBook("ta reads ^reads;", 1);
        Texts.badBook("ta reads ^5;", 1);
        Texts.badBook("ta reads ^;", 1);
        Texts.badBook("ta reads none ^none;", 1);
    }

    private static void whoWakes() {
        Due.promise(38, "EDITOR ( 'wakes' | 'sleeps' )");
        Texts.goodBook("ed sleeps;ed wakes;", 2);
        Texts.badBook("ed ^reads fish;", 1);
        Texts.badBook("ed ^sleep;", 1);
        Texts.badBook("ed ^;", 1);
        Texts.badBook("ed sleeps ^ed;", 1);
    }

    private static void faultsAlong() {
        Due.promise(38, "FAULTS, the first along the text, of one TOKEN the least:");
        Texts.badBook("^zz wakes;", 3);
        Texts.badBook("^fish reads fish;", 3);
        Texts.badBook("^main wakes;", 3);
        Texts.badBook("^reads fish;", 1);
        Texts.badBook("^none;", 1);
        Texts.badBook("^noun fish;", 1);
        Texts.badBook("^1 day;", 1);
        Texts.badBook("day 1;^Ta reads fish;day 0;", 1);
        Texts.badBook("day ^0;zz wakes;", 2);
    }

    private static void nothingIsLivedByAFault() {
        Due.promise(38, "-2 less the place of a FAULT;");
        for (int lives = 0; lives < 2; lives++) {
            RiverText x = Due.in(Due.LAND);
            x.days(2);
            Due.daybook(x, "day 1;?", 0);
            int lived = lives;
            Told.stays("a FAULT behind good LINES", x, () ->
                    Due.same("daybook()", Due.daybook(x, "day 3;ed sleeps;?", lived), -2 - 16));
            Due.same("the kind", x.fault(), 1);
            Due.same("just one act", x.undo(), 0);
        }
    }

    private static void lessThePlace() {
        Due.promise(38, "-2 less the place of a FAULT;");
        RiverText x = Due.in(Due.LAND);
        Due.same("at the first byte", Due.daybook(x, ";", 0), -2);
        Due.same("at the second byte", Due.daybook(x, " ;", 1), -3);
        Due.same("at the most", Due.daybook(x, Texts.blanks(940), 1), -402);
    }

    private static void judged() {
        Due.promise(38, "it is judged, all staying as it is (lives 0)");
        RiverText x = Due.in(Due.LAND);
        Due.sentence(x, "words > 3");
        x.days(8);
        String book = "ta reads runs;day 2;ta reads old;ed sleeps;mo sleeps;day 40;ta reads dot;";
        Due.daybook(x, book, 0);
        Told.stays("judging it once more", x, () -> Due.same(book, Due.daybook(x, book, 0), 6));
        Due.same("DAY", x.now(0), 8);
        Due.same("the DAY then", x.booked(2), 50);
        Due.same("just one act", x.undo(), 0);
    }

    private static void livedAsFar() {
        Due.promise(38, "or lived as far as it is not WRONG (1):");
        RiverText x = Due.in(Due.LAND);
        Due.same("it is not WRONG", Due.daybook(x, "day 2;ta reads old;mo sleeps;day 1;", 1), NONE);
        Due.same("DAY", x.now(0), 3);
        Due.same("mo sleeps", x.editor(1, 2), 0);
        Due.same("what was read is kept", x.well(0, 1), Due.OLD);
        Due.same("it is WRONG", Due.daybook(x, "mo wakes;day 2;mo wakes;day 50;ed sleeps;", 1), 2);
        Due.same("DAY", x.now(0), 5);
        Due.same("mo is awake", x.editor(1, 2), 1);
        Due.same("ed is awake", x.editor(0, 2), 1);
        Due.same("WRONG at once", Due.daybook(x, "ed wakes;day 9;", 1), 0);
        Due.same("DAY", x.now(0), 5);
        Due.same("two acts", x.undo(), 1);
        Due.same("DAY", x.now(0), 3);
    }

    private static void theLineThatIsWrong() {
        Due.promise(38, "the LINE that is WRONG (from 0); NONE: none;");
        for (int ahead = 0; ahead < 30; ahead++) {
            String book = Due.times(ahead, "day 1;") + "ed wakes;";
            Due.same(ahead + " LINES ahead", Due.daybook(Due.in(Due.LAND), book, 0), ahead);
        }
        RiverText x = Due.in(Due.LAND);
        Due.same("none", Due.daybook(x, "", 0), NONE);
        Due.same("none", Due.daybook(x, "ed sleeps;", 0), NONE);
        Due.same("the first of two", Due.daybook(x, "day 1;ed wakes;mo wakes;", 0), 1);
    }

    private static void anotherLives() {
        Due.promise(38, "-1000: another lives (the tape stays).");
        RiverText x = Due.in(Due.LAND);
        Due.daybook(x, "day 3;ed wakes;", 1);
        Due.layText(x, "day 5;");
        Told.stays("another lives", x, () -> {
            Due.same("daybook(2)", x.daybook(2), -1000);
            Due.same("daybook(-1)", x.daybook(-1), -1000);
            for (int lives : FAR) {
                Due.same("daybook(" + lives + ")", x.daybook(lives), -1000);
            }
        });
        Due.same("bytes", x.count(6), 6);
        Due.same("it is read then", x.daybook(1), NONE);
        Due.same("DAY", x.now(0), 8);
        Due.layText(x, "no book!");
        Due.same("a FAULT is not looked for", x.daybook(3), -1000);
        Due.same("fault", x.fault(), 0);
    }

    private static void fewerDaysAreLeft() {
        Due.promise(39, "1 fewer DAYS are left");
        RiverText x = Due.in(Due.LAND);
        Due.same("400 DAYS", Due.daybook(x, Due.times(4, "day 99;") + "day 4;", 0), NONE);
        Due.same("booked(0)", x.booked(0), 0);
        Due.same("the DAY then", x.booked(2), 400);
        Due.same("401 DAYS", Due.daybook(x, Due.times(4, "day 99;") + "day 5;", 1), 4);
        Due.same("booked(0)", x.booked(0), 1);
        Due.same("none of these go by", x.now(0), 396);
        Due.same("one more than all", Due.daybook(x, "day 4;day 1;", 1), 1);
        Due.same("booked(0)", x.booked(0), 1);
        Due.same("DAY", x.now(0), 400);
        Due.same("all are over", Due.daybook(x, "day 1;", 1), 0);
        Due.same("booked(0)", x.booked(0), 1);
    }

    private static void somethingElseLast() {
        Due.promise(39, "2 it read something else last");
        RiverText x = Due.in("noun a;noun b;reach r 3;says r a b;editor e r 1;strike e b;town t r 2;");
        Due.same("ahead of any DAY", Due.daybook(x, "t reads none;", 0), NONE);
        Due.same("ahead of any DAY", Due.daybook(x, "t reads a;", 0), 0);
        Due.same("booked(0)", x.booked(0), 2);
        x.days(3);
        Due.same("it read a", Due.daybook(x, "t reads a;", 0), NONE);
        Due.same("not none", Due.daybook(x, "t reads none;", 0), 0);
        Due.same("booked(0)", x.booked(0), 2);
        Due.same("not b", Due.daybook(x, "t reads b;", 0), 0);
        Due.same("none a DAY later", Due.daybook(x, "day 1;t reads none;day 1;t reads a;", 1), NONE);
        x.stone(0, 2, 1);
        Due.same("a stone is not read yet", Due.daybook(x, "t reads a;", 0), NONE);
        Due.same("by DAY 5 none", Due.daybook(x, "day 1;t reads a;", 0), 1);
        Due.same("booked(0)", x.booked(0), 2);
    }

    private static void soAlready() {
        Due.promise(39, "3 it is so already");
        RiverText x = Due.in(Due.LAND);
        Due.same("awake at first", Due.daybook(x, "ed wakes;", 1), 0);
        Due.same("booked(0)", x.booked(0), 3);
        Due.same("asleep", Due.daybook(x, "mo sleeps;mo sleeps;", 1), 1);
        Due.same("booked(0)", x.booked(0), 3);
        Due.same("mo sleeps", x.editor(1, 2), 0);
        Due.same("still", Due.daybook(x, "mo sleeps;", 1), 0);
        Due.same("not ed", Due.daybook(x, "ed sleeps;mo wakes;ed wakes;", 1), NONE);
        Due.same("booked(0)", x.booked(0), 0);
    }

    private static void notWrong() {
        Due.promise(39, "0 why it was WRONG (0: it was not;");
        RiverText x = Due.in(Due.LAND);
        String[] books = {"", "day 99;", "ta reads none;", "ed sleeps;ed wakes;", "mo sleeps;day 2;ta reads old;mo wakes;"};
        for (String book : books) {
            Due.daybook(x, "ed wakes;", 0);
            Due.same("booked(0) ahead of it", x.booked(0), 3);
            Due.same(book, Due.daybook(x, book, 0), NONE);
            Due.same("booked(0) behind " + book, x.booked(0), 0);
        }
    }

    private static void linesAhead() {
        Due.promise(39, "1 how many LINES are ahead of the one that is WRONG (all, if none is)");
        for (int ahead = 0; ahead <= 29; ahead++) {
            RiverText x = Due.in(Due.LAND);
            Due.daybook(x, Due.times(ahead, "day 1;") + "ed wakes;", 0);
            Due.same("booked(1)", x.booked(1), ahead);
            Due.daybook(x, Due.times(ahead, "day 1;"), 0);
            Due.same("all", x.booked(1), ahead);
        }
    }

    private static void theDayThen() {
        Due.promise(39, "2 the DAY then");
        RiverText x = Due.in(Due.LAND);
        Due.daybook(x, "", 0);
        Due.same("none went by", x.booked(2), 0);
        Due.daybook(x, "day 7;", 0);
        Due.same("7 went by", x.booked(2), 7);
        x.days(10);
        Due.daybook(x, "day 7;ed wakes;day 9;", 1);
        Due.same("7 more", x.booked(2), 17);
        x.days(10);
        Due.same("it stays told", x.booked(2), 17);
    }

    private static void clashesInIt() {
        Due.promise(39, "3 CLASHES in it");
        RiverText x = Due.in("noun a;noun b;reach m 1;reach n 1 into m;reach o 1 into m;says n a;says o b;");
        x.days(10);
        Due.same("so far", x.now(2), 9);
        Due.daybook(x, "", 0);
        Due.same("none in it", x.booked(3), 0);
        Due.daybook(x, "day 5;day 2;", 0);
        Due.same("7 in it", x.booked(3), 7);
        Due.daybook(x, "day 3;day 99;day 99;day 99;day 99;", 1);
        Due.same("up to the LINE that is WRONG", x.booked(3), 300);
        Due.same("so far", x.now(2), 309);
    }

    private static void ofTheLatest() {
        Due.promise(39, "Of the latest daybook() that had no FAULT (and was not -1000):");
        RiverText x = Due.in("noun a;noun b;reach m 1;reach n 1 into m;reach o 1 into m;says n a;says o b;editor e m 0;");
        Due.daybook(x, "day 6;e wakes;day 1;", 0);
        int[] due = {3, 1, 6, 5};
        String[] faulty = {"day 0;", "day 9;;", "zz", Texts.blanks(401), Due.times(31, "day 1;")};
        for (String book : faulty) {
            Due.yes("a FAULT", Due.daybook(x, book, 1) < NONE);
            Due.layText(x, "day 2;");
            x.daybook(2);
            for (int what = 0; what < 4; what++) {
                Due.same("booked(" + what + ") behind " + book, x.booked(what), due[what]);
            }
        }
        Due.daybook(x, "e sleeps;", 1);
        x.undo();
        x.restore(0);
        Due.same("an undone one is the latest too", x.booked(1), 1);
        Due.same("it was not WRONG", x.booked(0), 0);
    }

    private static void aheadOfAny() {
        Due.promise(39, "NONE: another what, or ahead of any.");
        RiverText x = Due.in(Due.LAND);
        x.daybook(2);
        Due.daybook(x, "day 0;", 0);
        for (int what = 0; what < 4; what++) {
            Due.same("booked(" + what + ") ahead of any", x.booked(what), NONE);
        }
        Due.daybook(x, "day 1;", 0);
        Due.same("booked(3)", x.booked(3), 0);
        Due.same("booked(4)", x.booked(4), NONE);
        Due.same("booked(-1)", x.booked(-1), NONE);
        for (int what : FAR) {
            Due.same("booked(" + what + ")", x.booked(what), NONE);
        }
    }
}
