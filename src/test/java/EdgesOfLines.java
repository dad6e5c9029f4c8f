/** The edges of promise 4 (country): each kind of LINE, NAMES, how many of each, and the FAULTS of kinds 2 to 4. */
final class EdgesOfLines {
    private static final int NONE = Due.NONE;
    private static final String LAND = "noun a;noun b;noun c;reach r 2;editor e r 1;editor f r 0;town t r 1;town u r 1;";

    private EdgesOfLines() { }

    static void run() {
        lengths();
        toldAhead();
        theSea();
        oneToTwelveTerms();
        aReachOnce();
        noneFlowsIntoIt();
        belowItsLength();
        noTwoAtOnePlace();
        unlike();
        firstTermOnce();
        tastesOnce();
        names();
        toldOnce();
        asManyAsThereMayBe();
        numberedFrom0();
        tokensThatCantCome();
        numbersNotAsTold();
        namesNotTold();
        namesOfAnotherSort();
        atTheSecondOfTwo();
        atAt();
        theOtherWayRound();
        oneMore();
        theThirteenth();
    }

    private static void lengths() {
        Due.promise(4, "'reach' NAME LENGTH [ 'into' REACH ] (1 to 9;");
        Texts.bad("reach r ^0;", 2);
        Texts.bad("reach r ^000;", 2);
        Texts.good("reach r 1;", 1);
        Texts.good("reach r 9;", 1);
        Texts.bad("reach r ^10;", 2);
        Texts.bad("reach r ^999;", 2);
        for (int length = 1; length <= 9; length++) {
            Due.same("LENGTH", Due.in("reach r " + length + ";").reach(0, 0), length);
        }
    }

    private static void toldAhead() {
        Due.promise(4, "one told ahead;");
        Texts.good("reach q 1;reach r 1 into q;", 2);
        Texts.bad("reach r 1 into ^q;reach q 1;", 3);
        Texts.bad("reach r 1 into ^r;", 3);
    }

    private static void theSea() {
        Due.promise(4, "the sea without)");
        RiverText x = Due.in("noun a;reach r 1;says r a;");
        Due.same("into which it flows", x.reach(0, 1), NONE);
        x.days(3);
        Due.same("TERMS that came into the sea", x.now(3), 2);
    }

    private static void oneToTwelveTerms() {
        Due.promise(4, "'says' REACH TERM { TERM } (1 to 12 TERMS;");
        Texts.bad("noun a;reach r 1;says r^;", 1);
        Texts.good("noun a;reach r 1;says r a;", 3);
        Texts.good("noun a;reach r 1;says r" + Due.times(12, " a") + ";", 3);
        Texts.bad("noun a;reach r 1;says r" + Due.times(12, " a") + " ^a;", 4);
        Due.same("TERMS", Due.in("noun a;reach r 1;says r" + Due.times(12, " a") + ";").reach(0, 3), 12);
    }

    private static void aReachOnce() {
        Due.promise(4, "a REACH once;");
        Texts.bad("noun a;reach r 1;says r a;says ^r a;", 3);
        Texts.bad("noun a;reach r 1;reach q 1;says r a;says q a;says ^r a;", 3);
        Texts.good("noun a;reach r 1;reach q 1;says q a;says r a;", 5);
    }

    private static void noneFlowsIntoIt() {
        Due.promise(4, "none flows into it so far or later)");
        Texts.bad("noun a;reach r 1;reach q 1 into r;says ^r a;", 3);
        Texts.bad("noun a;reach r 1;says r a;reach q 1 into ^r;", 3);
        Texts.good("noun a;reach r 1;reach q 1 into r;says q a;", 4);
        Texts.good("noun a;reach r 1;reach q 1;says r a;reach p 1 into q;", 5);
    }

    private static void belowItsLength() {
        Due.promise(4, "'editor' NAME REACH AT (below its LENGTH;");
        for (String who : new String[] {"editor", "town"}) {
            Texts.good("reach r 1;" + who + " e r 0;", 2);
            Texts.bad("reach r 1;" + who + " e r ^1;", 2);
            Texts.good("reach r 9;" + who + " e r 8;", 2);
            Texts.bad("reach r 9;" + who + " e r ^9;", 2);
            Texts.bad("reach r 9;" + who + " e r ^999;", 2);
            Texts.bad("reach r 9;reach q 2;" + who + " e q ^2;", 2);
            Texts.good("reach r 2;reach q 9;" + who + " e q 008;", 3);
        }
    }

    private static void noTwoAtOnePlace() {
        Due.promise(4, "no two at one place)");
        Texts.bad("reach r 2;editor e r 1;editor f r ^1;", 3);
        Texts.bad("reach r 2;editor e r 1;editor f r 0;editor g r ^01;", 3);
        Texts.good("reach r 2;editor e r 1;editor f r 0;", 3);
        Texts.good("reach r 2;reach q 2;editor e r 1;editor f q 1;", 4);
        Texts.good("reach r 2;editor e r 1;town t r 1;town u r 1;", 4);
    }

    private static void unlike() {
        Due.promise(4, "'turn' EDITOR TERM TERM (unlike;");
        Texts.bad(LAND + "turn e a ^a;", 3);
        Texts.bad(LAND + "turn e a b;turn e c ^c;", 3);
        Texts.good(LAND + "turn e a b;turn e b a;", 10);
    }

    private static void firstTermOnce() {
        Due.promise(4, "for each EDITOR each first TERM once, of both)");
        for (String first : new String[] {"strike e a;", "turn e a b;"}) {
            Texts.bad(LAND + first + "strike e ^a;", 3);
            Texts.bad(LAND + first + "turn e ^a b;", 3);
            Texts.bad(LAND + first + "turn e ^a c;", 3);
            Texts.good(LAND + first + "strike f a;", 10);
            Texts.good(LAND + first + "turn f a b;", 10);
            Texts.good(LAND + first + "strike e b;", 10);
            Texts.good(LAND + first + "turn e c b;", 10);
            Texts.good(LAND + first + "turn e c a;", 10);
        }
    }

    private static void tastesOnce() {
        Due.promise(4, "'taste' TOWN TERM (each two once)");
        Texts.bad(LAND + "taste t a;taste t ^a;", 3);
        Texts.good(LAND + "taste t a;taste t b;", 10);
        Texts.good(LAND + "taste t a;taste u a;", 10);
    }

    private static void names() {
        Due.promise(4, "NAME: a WORD, none of those told here, in a DAYBOOK or a SENTENCE;");
        for (String word : Texts.KEYWORDS) {
            Texts.bad("noun ^" + word + ";", 1);
            Texts.bad("stop ^" + word + ";", 1);
            Texts.bad("reach ^" + word + " 1;", 1);
            Texts.bad("reach r 1;editor ^" + word + " r 0;", 1);
            Texts.bad("reach r 1;town ^" + word + " r 0;", 1);
            if (word.length() < 7) {
                Texts.good("noun " + word + "z;", 1);
            }
            Texts.good("noun " + word.substring(1) + ";", 1);
        }
        Texts.bad("noun ^7;", 1);
    }

    private static void toldOnce() {
        Due.promise(4, "told once. 10 TERMS");
        String[] told = {"noun a;", "verb a;", "like a;", "stop a;", "reach a 1;", "editor a r 0;", "town a r 0;"};
        String[] again = {"noun ^a;", "verb ^a;", "like ^a;", "stop ^a;", "reach ^a 1;", "editor ^a r 1;", "town ^a r 0;"};
        for (String first : told) {
            for (String second : again) {
                Texts.bad("reach r 2;" + first + second, 3);
                Texts.bad("reach r 2;noun c;" + first + "noun b;" + second, 3);
            }
        }
        Texts.bad("noun a;reach ^a a;", 3);
        Texts.good("noun a;noun aa;noun aaaaaaa;", 3);
    }

    private static String six(String who) {
        String text = "";
        for (int i = 0; i < 6; i++) {
            text += who + (char) ('a' + i) + " r " + i + ";";
        }
        return text;
    }

    private static String tastes(int n) {
        String text = "";
        for (int i = 0; i < n; i++) {
            text += "taste " + (i < 10 ? 't' : 'u') + " " + (char) ('a' + i % 10) + ";";
        }
        return text;
    }

    private static String changes(int n) {
        String text = "";
        for (int i = 0; i < n; i++) {
            char term = (char) ('a' + i % 10);
            text += i < 10 ? "strike x " + term + ";" : "turn y " + term + " " + (term == 'a' ? 'b' : 'a') + ";";
        }
        return text;
    }

    private static void asManyAsThereMayBe() {
        Due.promise(4, "10 TERMS, 8 REACHES, 6 EDITORS, 20 strikes and turns, 6 TOWNS, 12 tastes at most;");
        Texts.good(Texts.TEN_TERMS, 10);
        Texts.good("noun a;verb b;like c;stop d;noun e;verb f;like g;stop h;noun i;verb j;", 10);
        String reaches = "";
        for (char c = 'a'; c <= 'h'; c++) {
            reaches += "reach " + c + " 9;";
        }
        Texts.good(reaches, 8);
        Texts.bad(reaches + "^reach i 9;", 4);
        Texts.good("reach r 9;" + six("editor e"), 7);
        Texts.bad("reach r 9;" + six("editor e") + "^editor f r 7;", 4);
        Texts.good("reach r 9;" + six("town t"), 7);
        Texts.bad("reach r 9;" + six("town t") + "^town u r 7;", 4);
        String land = Texts.TEN_TERMS + "reach r 9;editor x r 0;editor y r 1;editor z r 2;town t r 0;town u r 0;";
        Texts.good(land + changes(20), 36);
        Texts.bad(land + changes(20) + "^strike z a;", 4);
        Texts.bad(land + changes(20) + "^turn z a b;", 4);
        Texts.good(land + tastes(12), 28);
        Texts.bad(land + tastes(12) + "^taste u c;", 4);
        for (String sort : new String[] {"noun", "verb", "like", "stop"}) {
            Texts.bad(Texts.TEN_TERMS + "^" + sort + " k;", 4);
        }
    }

    private static void numberedFrom0() {
        Due.promise(4, "TERMS, REACHES, EDITORS, TOWNS numbered from 0 each.");
        RiverText x = new RiverText();
        Due.country(x, "stop z;reach y 3;town x y 2;editor w y 1;noun a;reach b 2;editor c b 0;town d b 1;turn w z a;");
        Due.same("TERM 0", x.term(0), 3);
        Due.same("TERM 1", x.term(1), 0);
        Due.same("REACH 0", x.reach(0, 0), 3);
        Due.same("REACH 1", x.reach(1, 0), 2);
        Due.same("EDITOR 0", x.editor(0, 1), 1);
        Due.same("EDITOR 1", x.editor(1, 1), 0);
        Due.same("TOWN 0", x.town(0, 1), 2);
        Due.same("TOWN 1", x.town(1, 1), 1);
        Due.same("EDITOR 0 turns TERM 0", x.makes(0, 0), 1);
    }

    private static void tokensThatCantCome() {
        Due.promise(4, "1 no TOKEN, or one that can't come (at it;");
        for (String token : new String[] {"^5", "^;", "^=", "^noun", "^into", "^A", "^a1", "^abcdefgh"}) {
            Texts.bad("noun " + token + ";", 1);
            Texts.bad("noun a;reach r 1;says " + token + " a;", 1);
            Texts.bad("noun a;reach r 1;says r " + token + ";", 1);
            Texts.bad("reach r 1;editor e " + token + " 0;", 1);
            Texts.bad(LAND + "strike " + token + " a;", 1);
            Texts.bad(LAND + "strike e " + token + ";", 1);
            Texts.bad(LAND + "turn e a " + token + ";", 1);
            Texts.bad(LAND + "taste " + token + " a;", 1);
            Texts.bad(LAND + "taste t " + token + ";", 1);
            Texts.bad("reach r 1;reach q 1 into " + token + ";", 1);
        }
        for (String token : new String[] {"^r", "^;", "^=", "^noun", "^1a", "^1000"}) {
            Texts.bad("reach r " + token + ";", 1);
            Texts.bad("reach r 1;editor e r " + token + ";", 1);
            Texts.bad("reach r 1;town t r " + token + ";", 1);
        }
        Texts.bad("reach r 1 ^r;", 1);
        Texts.bad("reach r 1;reach q 1 into r ^r;", 1);
        Texts.bad("reach r 1;town t r 0 ^0;", 1);
        Texts.bad(LAND + "strike e a ^b;", 1);
        Texts.bad(LAND + "turn e a^;", 1);
    }

    private static void numbersNotAsTold() {
        Due.promise(4, "2 a NUMBER that is not as told (at it);");
        Texts.bad("reach r ^0 into r;", 2);
        Texts.bad("reach r 3;editor e r ^3;", 2);
        Texts.bad("reach r 3;town t r ^3;", 2);
        Texts.bad("reach r 3;editor e r 0;editor f r ^3;", 2);
    }

    private static void namesNotTold() {
        Due.promise(4, "3 a NAME told twice, not told, or of another sort,");
        Texts.bad("reach r 1 into ^z;", 3);
        Texts.bad("noun a;says ^z a;", 3);
        Texts.bad("noun a;reach r 1;says r ^z;", 3);
        Texts.bad("noun a;reach r 1;says r a ^z;", 3);
        Texts.bad("editor e ^z 0;", 3);
        Texts.bad("editor e ^e 0;", 3);
        Texts.bad("town t ^z 0;", 3);
        Texts.bad("town t ^t 0;", 3);
        Texts.bad("noun a;strike ^z a;", 3);
        Texts.bad(LAND + "strike e ^z;", 3);
        Texts.bad("noun a;turn ^z a a;", 3);
        Texts.bad(LAND + "turn e ^z a;", 3);
        Texts.bad(LAND + "turn e a ^z;", 3);
        Texts.bad("noun a;taste ^z a;", 3);
        Texts.bad(LAND + "taste t ^z;", 3);
    }

    private static void namesOfAnotherSort() {
        Due.promise(4, "or of another sort,");
        String[] all = {"a", "r", "e", "t"};
        for (int sort = 0; sort < all.length; sort++) {
            String other = "^" + all[sort];
            if (sort != 0) {
                Texts.bad("noun a;reach q 1;" + LAND.substring(7) + "says q " + other + ";", 3);
                Texts.bad(LAND + "strike e " + other + ";", 3);
                Texts.bad(LAND + "turn e " + other + " a;", 3);
                Texts.bad(LAND + "turn e a " + other + ";", 3);
                Texts.bad(LAND + "taste t " + other + ";", 3);
            }
            if (sort != 1) {
                Texts.bad(LAND + "reach q 1 into " + other + ";", 3);
                Texts.bad(LAND + "says " + other + " a;", 3);
                Texts.bad(LAND + "editor g " + other + " 0;", 3);
                Texts.bad(LAND + "town v " + other + " 0;", 3);
            }
            if (sort != 2) {
                Texts.bad(LAND + "strike " + other + " a;", 3);
                Texts.bad(LAND + "turn " + other + " a b;", 3);
            }
            if (sort != 3) {
                Texts.bad(LAND + "taste " + other + " a;", 3);
            }
        }
    }

    private static void atTheSecondOfTwo() {
        Due.promise(4, "what is told once told again (at it, at the second of two),");
        Texts.bad("noun a;noun ^a;", 3);
        Texts.bad("noun a;reach r 1;says r a;says ^r a;", 3);
        Texts.bad(LAND + "strike e a;strike e ^a;", 3);
        Texts.bad(LAND + "turn e a b;strike e ^a;", 3);
        Texts.bad(LAND + "strike e a;turn e ^a z;", 3);
        Texts.bad(LAND + "strike e a;turn e ^a a;", 3);
        Texts.bad(LAND + "taste t c;taste t ^c;", 3);
    }

    private static void theOtherWayRound() {
        Due.promise(4, "a REACH that says, but into which one flows, or the other way round (at the REACH);");
        Texts.bad("noun a;reach r 1;says r a;reach q 1 into ^r;", 3);
        Texts.bad("noun a;reach r 1;reach q 1 into r;says ^r a;", 3);
        Texts.bad("noun a;reach r 1;reach q 1 into r;says ^r z;", 3);
        Texts.bad("noun a;reach r 1;reach q 1 into r;reach p 1 into q;says ^q", 3);
    }

    private static void atAt() {
        Due.promise(4, "a TERM turned into itself, two EDITORS at one place (at AT),");
        Texts.bad(LAND + "turn f b ^b;", 3);
        Texts.bad(LAND + "turn f b ^b b;", 3);
        Texts.bad("reach r 2;reach q 2;editor e r 1;editor f q 1;editor g q ^1;", 3);
        Texts.bad("reach r 2;editor e r 1;editor f r ^1", 3);
    }

    private static void oneMore() {
        Due.promise(4, "4 one more than there may be (at the LINE's first WORD;");
        Texts.bad(Texts.TEN_TERMS + "  ^noun k;", 4);
        Texts.bad(Texts.TEN_TERMS + "^noun 5;", 4);
        Texts.bad(Texts.TEN_TERMS + "^noun a;", 4);
        Texts.bad("reach r 9;" + six("editor e") + "^editor f r 9;", 4);
        Texts.bad("reach r 9;" + six("editor e") + "^editor f z 0;", 4);
        Texts.bad("reach r 9;" + six("town t") + "^town", 4);
        String land = Texts.TEN_TERMS + "reach r 9;editor x r 0;editor y r 1;town t r 0;town u r 0;";
        Texts.bad(land + changes(20) + "^strike x a;", 4);
        Texts.bad(land + changes(20) + "^turn t;", 4);
        Texts.bad(land + tastes(12) + "^taste t a;", 4);
    }

    private static void theThirteenth() {
        Due.promise(4, "a 13th TERM of 'says' at it),");
        String says = "noun a;noun b;reach r 1;says r" + Due.times(11, " a");
        Texts.good(says + " b;", 4);
        Texts.bad(says + " b ^a;", 4);
        Texts.bad(says + " b ^b b;", 4);
        Texts.bad(says + " b ^a z", 4);
        Texts.good(says + " b;" + "noun c;", 5);
    }
}
