/** Promises 4 (country) and 5 (fault), and the TOKENS and FAULTS of all texts. */
public final class CountryTest {
    private static final String[] KEYWORDS = {
        "noun", "verb", "like", "stop", "reach", "into", "says", "editor", "strike", "turn", "town", "taste",
        "day", "reads", "none", "wakes", "sleeps",
        "or", "and", "not", "on", "sense", "at", "words", "liked", "number",
    };
    private static final String TEN_TERMS = "noun a;noun b;noun c;noun d;noun e;noun f;noun g;noun h;noun i;noun j;";

    public static void main(String[] args) {
        goodTexts();
        tokens();
        terms();
        reaches();
        says();
        editors();
        changes();
        townsAndTastes();
        limits();
        allNames();
        mostBytes();
        whatStays();
        newCountry();
        Due.finish();
    }

    private static void good(String text, int lines) {
        RiverText x = new RiverText();
        Due.same(text, Due.country(x, text), lines);
        Due.same("fault of " + text, x.fault(), 0);
        Due.same("tape behind " + text, x.count(6), 0);
    }

    private static void bad(String text, int place, int kind) {
        RiverText x = new RiverText();
        Due.same(text, Due.country(x, text), -1 - place);
        Due.same("fault of " + text, x.fault(), kind);
        Due.same("tape behind " + text, x.count(6), 0);
    }

    private static void goodTexts() {
        good("", 0);
        good(" \n ", 0);
        good("noun a;", 1);
        good("noun a ;verb\nb\n;  like abcdefg;stop d;", 4);
        good(Due.LAND, 19);
        good("reach r 9;reach q 1 into r;reach p 009 into q;", 3);
        good("noun a;reach r 1;says r a;", 3);
        good("reach r 2;editor e r 0;editor f r 1;town t r 0;town u r 0;", 5);
        good("noun a;noun b;reach r 1;editor e r 0;turn e a b;turn e b a;", 6);
    }

    private static void tokens() {
        bad("noun", 4, 1);
        bad("noun ", 5, 1);
        bad("noun a", 6, 1);
        bad("noun abcdefgh;", 5, 1);
        bad("noun a1;", 5, 1);
        bad("noun 1a;", 5, 1);
        bad("noun A;", 5, 1);
        bad("noun\ta;", 4, 1);
        bad("noun a,", 6, 1);
        bad("noun a.;", 6, 1);
        bad("nouna;", 0, 1);
        bad("noun a;;", 7, 1);
        bad(";", 0, 1);
        bad("a;", 0, 1);
        bad("5;", 0, 1);
        bad("into a;", 0, 1);
        bad("sense;", 0, 1);
        bad("noun a b;", 7, 1);
        bad("noun (;", 5, 1);
        bad("noun " + (char) 233 + ";", 5, 1);
        bad("noun a;" + (char) 0, 7, 1);
    }

    private static void terms() {
        for (String word : KEYWORDS) {
            bad("noun " + word + ";", 5, 1);
        }
        bad("noun 7;", 5, 1);
        bad("noun ;", 5, 1);
        bad("noun a;verb a;", 12, 3);
        bad("reach a 1;noun a;", 15, 3);
    }

    private static void reaches() {
        bad("reach r 0;", 8, 2);
        bad("reach r 10;", 8, 2);
        bad("reach r 999;", 8, 2);
        bad("reach r 1234;", 8, 1);
        bad("reach r;", 7, 1);
        bad("reach r a;", 8, 1);
        bad("reach r 1 q;", 10, 1);
        bad("reach r 1 into;", 14, 1);
        bad("reach r 1 into q;", 15, 3);
        bad("reach r 1 into r;", 15, 3);
        bad("reach r 1 into into;", 15, 1);
        bad("noun a;reach r 1 into a;", 22, 3);
        bad("reach r 1;reach r 2;", 16, 3);
        bad("noun a;reach r 2;says r a;reach q 1 into r;", 41, 3);
        bad("reach r 0 into q;", 8, 2);
    }

    private static void says() {
        bad("says r a;", 5, 3);
        bad("noun a;says a a;", 12, 3);
        bad("noun a;reach r 2;says r;", 23, 1);
        bad("noun a;reach r 2;says r a", 25, 1);
        bad("noun a;reach r 2;says r b;", 24, 3);
        bad("noun a;reach r 2;says r r;", 24, 3);
        bad("noun a;reach r 2;says r a 1;", 26, 1);
        bad("noun a;reach r 2;says r a into;", 26, 1);
        bad("noun a;reach r 2;says r a;says r a;", 31, 3);
        bad("reach r 2;reach q 1 into r;noun a;says r a;", 39, 3);
        String says = "noun a;reach r 2;says r" + Due.times(12, " a");
        good(says + ";", 3);
        bad(says + " a;", 48, 4);
        bad(says + " b;", 48, 3);
        bad(says + " 5;", 48, 1);
    }

    private static void editors() {
        bad("editor e r 0;", 9, 3);
        bad("reach r 2;editor r r 0;", 17, 3);
        bad("reach r 2;editor e e 0;", 19, 3);
        bad("reach r 2;editor e r 2;", 21, 2);
        bad("reach r 2;editor e r;", 20, 1);
        bad("reach r 2;editor e r 1;editor f r 1;", 34, 3);
        bad("reach r 2;editor e r 1;editor e r 0;", 30, 3);
        good("reach r 2;reach q 2;editor e r 1;editor f q 1;", 4);
    }

    private static void changes() {
        String land = "noun a;noun b;reach r 2;editor e r 1;"; // 37 bytes
        bad(land + "strike f a;", 44, 3);
        bad(land + "strike a a;", 44, 3);
        bad(land + "strike e z;", 46, 3);
        bad(land + "strike e a b;", 48, 1);
        bad(land + "turn e a;", 45, 1);
        bad(land + "turn e a a;", 46, 3);
        bad(land + "turn e a r;", 46, 3);
        bad(land + "strike e a;strike e a;", 57, 3);
        bad(land + "strike e a;turn e a b;", 55, 3);
        bad(land + "turn e a b;strike e a;", 57, 3);
        bad(land + "turn e a b;turn e a b;", 55, 3);
    }

    private static void townsAndTastes() {
        bad("town t r 0;", 7, 3);
        bad("reach r 2;town t r 2;", 19, 2);
        bad("reach r 2;town t r 1;town t r 0;", 26, 3);
        String land = "noun a;noun b;reach r 2;town t r 1;"; // 35 bytes
        good(land + "taste t a;taste t b;", 6);
        bad(land + "taste r a;", 41, 3);
        bad(land + "taste t t;", 43, 3);
        bad(land + "taste t a;taste t a;", 53, 3);
    }

    private static void limits() {
        good(TEN_TERMS, 10);
        bad(TEN_TERMS + "stop k;", 70, 4);
        bad(TEN_TERMS + "noun 5;", 70, 4);
        bad(TEN_TERMS + "noun a;", 70, 4);
        String reaches = "";
        for (char c = 'a'; c <= 'h'; c++) {
            reaches += "reach " + c + " 9;";
        }
        good(reaches, 8);
        bad(reaches + "reach i 0;", 80, 4);
        String editors = "reach r 9;";
        String towns = "reach r 9;";
        for (int i = 0; i < 6; i++) {
            editors += "editor e" + (char) ('a' + i) + " r " + i + ";";
            towns += "town t" + (char) ('a' + i) + " r 0;";
        }
        good(editors, 7);
        bad(editors + "editor f r 7;", editors.length(), 4);
        good(towns, 7);
        bad(towns + "town u r 0;", towns.length(), 4);
        String changes = TEN_TERMS + "reach r 9;editor x r 0;editor y r 1;editor z r 2;";
        String tastes = TEN_TERMS + "reach r 9;town x r 0;town y r 1;";
        for (char c = 'a'; c <= 'j'; c++) {
            changes += "strike x " + c + ";turn y " + c + " " + (c == 'a' ? 'b' : 'a') + ";";
            tastes += "taste x " + c + ";";
        }
        good(changes, 34);
        bad(changes + "strike z a;", changes.length(), 4);
        bad(changes + "turn z a b;", changes.length(), 4);
        tastes += "taste y a;taste y b;";
        good(tastes, 25);
        bad(tastes + "taste y c;", tastes.length(), 4);
    }

    /** As many of each as there may be: each NAME is known, each PLACE is there. */
    private static void allNames() {
        String text = TEN_TERMS;
        for (int i = 0; i < 8; i++) {
            text += "reach r" + (char) ('a' + i) + " 9" + (i > 0 ? " into r" + (char) ('a' + i - 1) : "") + ";";
        }
        for (int i = 0; i < 6; i++) {
            text += "editor e" + (char) ('a' + i) + " rh " + i + ";strike e" + (char) ('a' + i) + " j;";
            text += "town t" + (char) ('a' + i) + " ra " + (8 - i) + ";taste t" + (char) ('a' + i) + " j;";
        }
        text += "says rh a b c d e f g h i;taste tf a;";
        RiverText x = Due.in(text);
        int[] due = {10, 8, 6, 6, 6, 7, 0};
        for (int what = 0; what < due.length; what++) {
            Due.same("count " + what + " of all", x.count(what), due[what]);
        }
        x.days(72);
        Due.same("each PLACE has a TERM", x.now(1), 72);
        Due.same("the first TERM at the last PLACE", x.town(0, 2), 0);
        x.days(9);
        Due.same("TERMS into the sea", x.now(3), 9);
        Due.same("a DAYBOOK knows the last NAME", Due.daybook(x, "tf reads f;ef sleeps;", 0), Due.NONE);
        Due.same("a new COUNTRY has room for them too", Due.country(x, text), 44);
    }

    private static void mostBytes() {
        String blanks = Due.times(893, " ");
        good(blanks + "noun a;", 1);
        good("noun a;" + blanks, 1);
        bad("noun a;" + blanks + " ", 900, 1);
        bad(blanks + " noun a;", 900, 1);
        bad("noun A;" + blanks + " ", 5, 1);
        bad(blanks + "      nounnoun", 899, 1);
        bad(blanks + "      noun a;", 900, 1);
        bad(blanks + "       noun a;", 900, 1);
        bad(blanks + "  ;", 895, 1);
        // a NAME that begins at the last byte is read whole, and known to be told twice
        bad("noun ab;" + Due.times(886, " ") + "noun ab;", 899, 3);
        bad("noun ab;" + Due.times(887, " ") + "noun ab;", 900, 1);
        bad(Due.times(940, " "), 900, 1);
    }

    private static void whatStays() {
        RiverText x = Due.in(Due.LAND);
        x.days(5);
        Due.sentence(x, "sense");
        int said = x.said(Due.NONE);
        Due.same("a FAULT", Due.country(x, "noun a;noun a;"), -13);
        Due.same("its kind", x.fault(), 3);
        Due.same("the COUNTRY stays", x.count(0), 5);
        Due.same("the DAY stays", x.now(0), 5);
        Due.same("the SENTENCE stays", x.said(Due.NONE), said);
        Due.same("what can be undone stays", x.undo(), 0);
        Due.same("a good text", Due.sentence(x, "sense"), 1);
        Due.same("no FAULT any more", x.fault(), 0);
        Due.daybook(x, "day 0;", 0);
        Due.same("a FAULT of a DAYBOOK", x.fault(), 2);
        x.daybook(2);
        Due.same("another lives leaves it", x.fault(), 2);
        Due.sentence(x, "reads zz");
        Due.same("a FAULT of a SENTENCE", x.fault(), 3);
        Due.country(x, "");
        Due.same("none of the empty COUNTRY", x.fault(), 0);
    }

    private static void newCountry() {
        RiverText x = Due.in(Due.LAND);
        Due.sentence(x, "sense");
        x.wake(0, 0);
        x.drawn(9, 5);
        int stones = x.stones();
        Due.saying(x, 0, Due.RUNS);
        Due.daybook(x, "day 1;ta reads none;", 0);
        Due.country(x, Due.LAND);
        for (int what = 0; what <= 5; what++) {
            Due.same("now " + what + " of a new COUNTRY", x.now(what), 0);
        }
        Due.same("all EDITORS are awake", x.editor(0, 2), 1);
        Due.same("no SENTENCE", x.said(Due.NONE), Due.NONE);
        Due.same("nothing can be undone", x.undo(), Due.NONE);
        Due.same("nothing was read", x.well(0, 0), -2);
        Due.same("no TERM was read", x.town(0, 5), Due.NONE);
        Due.same("stones stay told", x.stones(), stones);
        Due.same("what was said stays told", x.saidAt(0), Due.RUNS);
        Due.same("the DAYBOOK stays told", x.booked(0), 2);
        nothingIsLeft(x);
        x.days(99);
        Due.same("the same names are new again", Due.country(x, Due.LAND), 19);
        nothingIsLeft(x);
    }

    private static void nothingIsLeft(RiverText x) {
        int[] readNothing = {Due.NONE, 0, 0, Due.NONE};
        for (int t = 0; t < 3; t++) {
            for (int what = 2; what <= 5; what++) {
                Due.same("town " + what + " of a new COUNTRY", x.town(t, what), readNothing[what - 2]);
            }
            Due.same("sense of a new COUNTRY", x.sense(t), Due.NONE);
            Due.same("sayings of a new COUNTRY", x.sayings(t), 0);
        }
        for (int what = 3; what <= 4; what++) {
            Due.same("struck and turned in a new COUNTRY", x.editor(0, what) + x.editor(1, what), 0);
        }
        x.days(8);
        Due.same("all goes as from the first", x.sense(0), Due.NONE);
        Due.same("SAYINGS", x.sayings(0), 1);
        Due.same("CLASHES", x.now(2), 3);
    }
}
