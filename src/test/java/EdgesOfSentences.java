/** The edges of promises 40 (sentence) and 41 (said). */
final class EdgesOfSentences {
    private static final int NONE = Due.NONE;
    private static final int[] FAR = {Integer.MIN_VALUE, -1000, -256, -3, -2, 400, 1 << 16, Integer.MAX_VALUE};

    private EdgesOfSentences() { }

    static void run() {
        bytes();
        conditions();
        parts();
        signs();
        anyNumber();
        faultsAlong();
        twentyOnes();
        eightWithin();
        asManyAsThereMayBe();
        howManyOnes();
        itStays();
        readsNow();
        onAReach();
        senseSoFar();
        asTold();
        howManyItRead();
        tasteFor();
        itsNumber();
        orAndNot();
        whichTowns();
        noSuchTown();
    }

    private static void bytes() {
        Due.promise(40, "A SENTENCE is a text of at most 200 bytes:");
        Texts.goodSentence("sense" + Texts.blanks(195), 1);
        Texts.goodSentence(Texts.blanks(195) + "sense", 1);
        Texts.badSentence("sense" + Texts.blanks(195) + "^ ", 1);
        Texts.badSentence(Texts.blanks(196) + "sens^e", 1);
        Texts.badSentence(Texts.blanks(200) + "^sense", 1);
        Texts.badSentence(Texts.blanks(199) + "^fish", 1);
        Texts.badSentence(Texts.blanks(199) + "s^ense", 1);
        Texts.badSentence(Texts.blanks(193) + "reads ^zz", 3);
        Texts.badSentence(Texts.blanks(193) + "reads f^ish", 1);
        Texts.badSentence(Texts.blanks(193) + "reads ^f5", 1);
        Texts.goodSentence(Texts.blanks(194) + "at < 1", 1);
        Texts.badSentence(Texts.blanks(194) + "at < 1^1", 1);
        Texts.badSentence(Texts.blanks(194) + "at < ^1a", 1);
        Texts.badSentence(Texts.blanks(195) + "at < ^1", 1);
        Texts.badSentence(Texts.blanks(195) + "at < ^", 1);
        Texts.badSentence(Texts.blanks(196) + "at =^ 1", 1);
        Texts.badSentence("sense ^sense" + Texts.blanks(200), 1);
    }

    private static void conditions() {
        Due.promise(40, "COND: ALL { 'or' ALL }. ALL: ONE { 'and' ONE }.");
        Texts.badSentence("^", 1);
        Texts.badSentence(" ^", 1);
        Texts.badSentence("\n\n^", 1);
        Texts.badSentence("^or sense", 1);
        Texts.badSentence("^and sense", 1);
        Texts.badSentence("sense or^", 1);
        Texts.badSentence("sense and^", 1);
        Texts.badSentence("sense or ^or sense", 1);
        Texts.badSentence("sense and ^or sense", 1);
        Texts.badSentence("sense ^sense", 1);
        Texts.badSentence("sense ^not sense", 1);
        Texts.badSentence("sense^;", 1);
        Texts.badSentence("sense ^(sense)", 1);
        Texts.goodSentence("sense or sense and sense or sense", 4);
    }

    private static void parts() {
        Due.promise(40, "ONE: 'not' ONE | ( COND ) | 'reads' TERM (now) | 'on' REACH");
        Texts.badSentence("not^", 1);
        Texts.badSentence("not ^or", 1);
        Texts.badSentence("not ^)", 1);
        Texts.badSentence("(^", 1);
        Texts.badSentence("(^)", 1);
        Texts.badSentence("(sense^", 1);
        Texts.badSentence("(sense or^)", 1);
        Texts.badSentence("(sense^;", 1);
        Texts.badSentence("(sense ^sense)", 1);
        Texts.badSentence("sense^)", 1);
        Texts.badSentence("(sense)^)", 1);
        Texts.badSentence("((sense)^", 1);
        Texts.badSentence("reads^", 1);
        Texts.badSentence("reads ^none", 1);
        Texts.badSentence("reads ^5", 1);
        Texts.badSentence("reads ^zz", 3);
        Texts.badSentence("reads ^main", 3);
        Texts.badSentence("reads ^ed", 3);
        Texts.badSentence("reads ^ta", 3);
        Texts.badSentence("reads fish ^fish", 1);
        Texts.badSentence("on^", 1);
        Texts.badSentence("on ^on", 1);
        Texts.badSentence("on ^zz", 3);
        Texts.badSentence("on ^fish", 3);
        Texts.badSentence("on ^tb", 3);
        Texts.badSentence("on main ^side", 1);
        Texts.goodSentence("(reads fish)or(on main)and not(not sense)", 8);
    }

    private static void signs() {
        Due.promise(40, "SIGN: < = >.");
        for (String what : new String[] {"at", "words", "liked", "number"}) {
            for (String sign : new String[] {"<", "=", ">"}) {
                Texts.goodSentence(what + sign + "1", 1);
                Texts.badSentence(what + sign + "^", 1);
                Texts.badSentence(what + sign + "^fish", 1);
                Texts.badSentence(what + sign + "^=1", 1);
                Texts.badSentence(what + sign + "1 ^1", 1);
            }
            for (String other : new String[] {"1", "fish", ";", ".", "(", "and", "!"}) {
                Texts.badSentence(what + " ^" + other + " 1", 1);
            }
            Texts.badSentence(what + "^", 1);
        }
        Texts.badSentence("sense ^= 1", 1);
    }

    private static void anyNumber() {
        Due.promise(40, "SIGN NUMBER (as told;");
        Texts.goodSentence("at < 0", 1);
        Texts.goodSentence("words > 999", 1);
        Texts.goodSentence("number = 007", 1);
        Texts.badSentence("at < ^1000", 1);
        Texts.badSentence("at < ^1a", 1);
    }

    private static void faultsAlong() {
        Due.promise(40, "FAULTS, the first along the text, of one TOKEN the least:");
        Texts.badSentence("reads ^zz and on zz and", 3);
        Texts.badSentence("sense and ^zz and reads zz", 1);
        Texts.badSentence("^fish", 1);
        Texts.badSentence("^5", 1);
        Texts.badSentence("^none", 1);
        Texts.badSentence("^noun", 1);
        Texts.badSentence("^day", 1);
        Texts.badSentence("^Sense", 1);
        Texts.badSentence("^sense1", 1);
        Texts.badSentence("^;", 1);
    }

    private static void twentyOnes() {
        Due.promise(40, "a 21st ONE,");
        String twenty = "sense" + Due.times(19, " or sense");
        Texts.goodSentence(twenty, 20);
        Texts.badSentence(twenty + " or ^sense", 4);
        Texts.badSentence(twenty + " or ^not sense", 4);
        Texts.badSentence(twenty + " or ^(sense)", 4);
        Texts.badSentence(twenty + " or ^reads zz", 4);
        Texts.badSentence(twenty + " and ^at", 4);
        Texts.badSentence(twenty + " or ^fish", 1);
        Texts.badSentence(twenty + " or^", 1);
        Texts.badSentence(twenty + "^)", 1);
        Texts.goodSentence(Due.times(9, "not sense or ") + "(sense)", 20);
        Texts.badSentence(Due.times(9, "not sense or ") + "not not ^sense", 4);
        Texts.badSentence(Due.times(9, "not sense or ") + "((^sense))", 4);
        Texts.goodSentence(Due.times(3, "((((sense)))) or ") + "((((sense))))", 20);
        Texts.badSentence(Due.times(3, "((((sense)))) or ") + "((((sense)))) or ^sense", 4);
    }

    private static void eightWithin() {
        Due.promise(40, "a ninth within (at its first TOKEN).");
        String nots = Due.times(7, "not ");
        Texts.goodSentence(nots + "sense", 8);
        Texts.badSentence(nots + "not ^sense", 4);
        Texts.badSentence(nots + "not ^not not", 4);
        Texts.badSentence(nots + "not ^reads zz", 4);
        Texts.badSentence(nots + "not ^zz", 1);
        Texts.badSentence(nots + "not^", 1);
        Texts.goodSentence("(((((((sense)))))))", 8);
        Texts.badSentence("((((((((^sense))))))))", 4);
        Texts.badSentence("((((((((^(sense)))))))))", 4);
        Texts.goodSentence("not (not (not (not sense)))", 8);
        Texts.badSentence("not (not (not (not not ^sense)))", 4);
        Texts.goodSentence("((((((sense and sense) or sense))))) and not sense", 11);
        Texts.badSentence(nots + "(^sense or sense)", 4);
        Texts.goodSentence("(((((((sense or at = 1 and words = 2)))))))", 10);
    }

    private static void asManyAsThereMayBe() {
        Due.promise(40, "20 ONES, 8 within one another.");
        String eight = "not(not(not(not sense)))";
        Texts.goodSentence(eight + "or " + eight + "or not not not sense", 20);
        Texts.badSentence(eight + "or " + eight + "or not not not not ^sense", 4);
        Texts.badSentence(eight + "or " + eight + "or not not not sense and ^sense", 4);
        Texts.badSentence("not(" + eight.replace("not sense", "^not sense") + ")", 4);
    }

    private static void howManyOnes() {
        Due.promise(40, "how many ONES (each not, bracket and other one)");
        Texts.goodSentence("sense", 1);
        Texts.goodSentence("not sense", 2);
        Texts.goodSentence("(sense)", 2);
        Texts.goodSentence("not (not sense)", 4);
        Texts.goodSentence("sense and sense or sense", 3);
        Texts.goodSentence("(reads fish and not on main) or at = 1", 5);
    }

    private static void itStays() {
        Due.promise(40, "-1 less the place of a FAULT: it stays.");
        RiverText x = Due.in(Due.LAND);
        Due.same("a FAULT ahead of any", Due.sentence(x, "zz"), -1);
        Due.same("there is no SENTENCE", x.said(NONE), NONE);
        Due.sentence(x, "not number = 1");
        Due.same("TOWNS", x.said(NONE), 2);
        String[] faulty = {"", "number = 1 or", "(number = 1", "number = 1 number = 1", "not not not not not not not not sense"};
        int[] places = {0, 13, 11, 11, 32};
        for (int i = 0; i < faulty.length; i++) {
            Due.same(faulty[i], Due.sentence(x, faulty[i]), -1 - places[i]);
            Due.same("TOWNS", x.said(NONE), 2);
            Due.same("the first", x.said(0), 0);
            Due.same("the second", x.said(1), 2);
        }
        Due.same("another one is it then", Due.sentence(x, "number = 1"), 1);
        Due.same("its TOWN", x.said(0), 1);
    }

    private static void holds(RiverText x, String text, int... towns) {
        Due.yes("good: " + text, Due.sentence(x, text) > 0);
        Due.same(text, x.said(NONE), towns.length);
        for (int k = 0; k < towns.length; k++) {
            Due.same(text + ": " + k, x.said(k), towns[k]);
        }
        Due.same(text + ": no more", x.said(towns.length), NONE);
    }

    private static void readsNow() {
        Due.promise(41, "'reads' TERM (now)");
        RiverText x = Due.in("noun a;noun b;reach r 2;says r a b;editor e r 1;strike e b;town t r 0;town u r 1;");
        holds(x, "reads a");
        x.days(1);
        holds(x, "reads a", 0);
        holds(x, "reads b");
        x.days(1);
        holds(x, "reads a", 1);
        holds(x, "reads b", 0);
        x.days(1);
        holds(x, "reads a", 0);
        holds(x, "not reads a", 1);
        x.stone(0, 1, 0);
        holds(x, "reads a", 0);
    }

    private static void onAReach() {
        Due.promise(41, "'on' REACH");
        RiverText x = Due.in("reach r 2;reach q 2 into r;reach p 1;town t q 0;town u r 1;town v q 1;");
        holds(x, "on r", 1);
        holds(x, "on q", 0, 2);
        holds(x, "on p");
    }

    private static void senseSoFar() {
        Due.promise(41, "'sense' (all that it read makes sense so far)");
        RiverText x = Due.in("noun a;verb b;reach r 2;says r b;town t r 0;town u r 1;");
        holds(x, "sense", 0, 1);
        x.days(1);
        holds(x, "sense", 1);
        x.days(1);
        holds(x, "sense");
        x.undo();
        holds(x, "sense", 1);
    }

    private static void asTold() {
        Due.promise(41, "( 'at' | 'words' | 'liked' | 'number' ) SIGN NUMBER (as told;");
        RiverText x = Due.in("reach r 9;town t r 0;town u r 8;town v r 4;");
        holds(x, "at = 0", 0);
        holds(x, "at < 0");
        holds(x, "at > 0", 1, 2);
        holds(x, "at = 4", 2);
        holds(x, "at < 4", 0);
        holds(x, "at > 4", 1);
        holds(x, "at > 8");
        holds(x, "at = 8", 1);
        holds(x, "at < 8", 0, 2);
        holds(x, "at < 999", 0, 1, 2);
        holds(x, "at = 004", 2);
    }

    private static void howManyItRead() {
        Due.promise(41, "how many TERMS it read;");
        RiverText x = Due.in("noun a;noun b;reach r 3;says r a b;editor e r 1;strike e b;town t r 0;town u r 1;town v r 2;");
        holds(x, "words = 0", 0, 1, 2);
        x.days(5);
        // t: a b a b a, u: - a - a -, v: - - a - a
        holds(x, "words = 5", 0);
        holds(x, "words = 2", 1, 2);
        holds(x, "words < 2");
        holds(x, "words > 2", 0);
        holds(x, "words < 5", 1, 2);
        holds(x, "words > 5");
    }

    private static void tasteFor() {
        Due.promise(41, "how many of them it has a taste for;");
        RiverText x = Due.in("noun a;noun b;reach r 1;says r a b b;town t r 0;town u r 0;town v r 0;town w r 0;"
                + "taste t a;taste u b;taste v a;taste v b;");
        x.days(3);
        holds(x, "liked = 1", 0);
        holds(x, "liked = 2", 1);
        holds(x, "liked = 3", 2);
        holds(x, "liked = 0", 3);
        holds(x, "liked > 1", 1, 2);
        holds(x, "liked < 1", 3);
    }

    private static void itsNumber() {
        Due.promise(41, "its number)");
        RiverText x = Due.in("reach r 1;town u r 0;town t r 0;town s r 0;town q r 0;town p r 0;town o r 0;");
        holds(x, "number = 0", 0);
        holds(x, "number = 5", 5);
        holds(x, "number > 4", 5);
        holds(x, "number < 1", 0);
        holds(x, "number > 5");
        holds(x, "number < 6", 0, 1, 2, 3, 4, 5);
    }

    private static void orAndNot() {
        Due.promise(41, "COND: ALL { 'or' ALL }. ALL: ONE { 'and' ONE }. ONE: 'not' ONE | ( COND )");
        RiverText x = Due.in("reach r 1;town a r 0;town b r 0;town c r 0;town d r 0;");
        holds(x, "number = 0 or number = 2", 0, 2);
        holds(x, "number > 0 and number < 3", 1, 2);
        holds(x, "number = 0 or number > 0 and number < 2", 0, 1);
        holds(x, "number > 0 and number < 2 or number = 3", 1, 3);
        holds(x, "(number = 0 or number > 0) and number < 2", 0, 1);
        holds(x, "number < 2 and (number = 1 or number = 3)", 1);
        holds(x, "not number = 1", 0, 2, 3);
        holds(x, "not number = 1 and number < 3", 0, 2);
        holds(x, "not number = 1 or number = 1", 0, 1, 2, 3);
        holds(x, "not (number = 1 or number = 2)", 0, 3);
        holds(x, "not (number = 1 and number = 2)", 0, 1, 2, 3);
        holds(x, "not not number = 2", 2);
        holds(x, "number = 0 and number = 1 or number = 2 and number > 1", 2);
        holds(x, "number = 0 or number = 1 or number = 2 or number = 3", 0, 1, 2, 3);
        holds(x, "number < 3 and number < 2 and number < 1", 0);
        holds(x, "(((((((number = 3)))))))", 3);
        holds(x, "not not not not not not not number = 3", 0, 1, 2);
        holds(x, "number=0" + Due.times(19, " or at>0"), 0);
        holds(x, "at=0" + Due.times(18, " and at=0") + " and number=2", 2);
    }

    private static void whichTowns() {
        Due.promise(41, "TOWNS of which it may be said: how many (k NONE), or the k-th.");
        RiverText x = Due.in("reach r 1;town a r 0;town b r 0;town c r 0;town d r 0;town e r 0;town f r 0;");
        holds(x, "number = 1 or number > 3", 1, 4, 5);
        holds(x, "at = 0", 0, 1, 2, 3, 4, 5);
        holds(x, "at = 1");
        RiverText y = Due.in("reach r 1;");
        holds(y, "sense");
    }

    private static void noSuchTown() {
        Due.promise(41, "NONE: there is no SENTENCE, none such.");
        RiverText x = Due.in("reach r 1;town a r 0;town b r 0;");
        for (int k = -1; k < 3; k++) {
            Due.same("ahead of any SENTENCE, said(" + k + ")", x.said(k), NONE);
        }
        Due.sentence(x, "sense");
        Due.same("said(NONE)", x.said(NONE), 2);
        Due.same("said(1)", x.said(1), 1);
        Due.same("said(2)", x.said(2), NONE);
        for (int k : FAR) {
            Due.same("said(" + k + ")", x.said(k), NONE);
        }
        Due.country(x, "reach r 1;town a r 0;");
        Due.same("a new COUNTRY has none", x.said(NONE), NONE);
        Due.same("a new COUNTRY has none", x.said(0), NONE);
        Due.same("an object without a COUNTRY", new RiverText().said(NONE), NONE);
        RiverText y = new RiverText();
        Due.sentence(y, "sense");
        Due.same("there are no TOWNS", y.said(NONE), 0);
        Due.same("there are no TOWNS", y.said(0), NONE);
    }
}
