/**
 * Good and bad texts of each kind. A bad one has a '^' (which is in no text) ahead of the place of its FAULT.
 * Texts of a DAYBOOK or a SENTENCE are told in Due.LAND.
 */
final class Texts {
    static final String TEN_TERMS = "noun a;noun b;noun c;noun d;noun e;noun f;noun g;noun h;noun i;noun j;";
    static final String[] KEYWORDS = {
        "noun", "verb", "like", "stop", "reach", "into", "says", "editor", "strike", "turn", "town", "taste",
        "day", "reads", "none", "wakes", "sleeps",
        "or", "and", "not", "on", "sense", "at", "words", "liked", "number",
    };

    private Texts() { }

    /** A COUNTRY with as many of each as there may be: 70 LINES. */
    static String fullOfAll() {
        String text = TEN_TERMS;
        for (char r = 'k'; r <= 'r'; r++) {
            text += "reach " + r + " 9;says " + r + " j;";
        }
        for (char e = 's'; e <= 'x'; e++) {
            text += "editor " + e + " r " + (e - 's') + ";town t" + e + " r 8;";
        }
        for (char t = 'a'; t <= 'j'; t++) {
            text += "strike s " + t + ";strike x " + t + ";taste tx " + t + ";";
        }
        return text + "taste ts a;taste ts b;";
    }

    private static int placeIn(String marked) {
        return marked.indexOf('^');
    }

    private static String plain(String marked) {
        return marked.replace("^", "");
    }

    private static void judged(RiverText x, String text, int answer, int due, int kind) {
        String told = text.replace("\n", "\\n").replaceAll(" {9,}", " .. ");
        Due.same(told, answer, due);
        Due.same("the kind of the FAULT of " + told, x.fault(), kind);
        Due.same("the bytes of the tape behind " + told, x.count(6), 0);
    }

    static String blanks(int n) {
        return " ".repeat(n);
    }

    static void good(String text, int lines) {
        RiverText x = new RiverText();
        judged(x, text, Due.country(x, text), lines, 0);
    }

    static void bad(String marked, int kind) {
        RiverText x = new RiverText();
        judged(x, marked, Due.country(x, plain(marked)), -1 - placeIn(marked), kind);
        Due.same("TERMS and REACHES behind " + marked, x.count(0) + x.count(1), 0);
    }

    static void goodBook(String text, int lines) {
        RiverText x = Due.in(Due.LAND);
        judged(x, text, Due.daybook(x, text, 0), Due.NONE, 0);
        Due.same("LINES of " + text, x.booked(1), lines);
    }

    static void badBook(String marked, int kind) {
        RiverText x = Due.in(Due.LAND);
        judged(x, marked, Due.daybook(x, plain(marked), 1), -2 - placeIn(marked), kind);
        Due.same("the next DAY behind " + marked, x.now(0), 0);
        Due.same("what is booked behind " + marked, x.booked(0), Due.NONE);
    }

    static void goodSentence(String text, int ones) {
        RiverText x = Due.in(Due.LAND);
        judged(x, text, Due.sentence(x, text), ones, 0);
    }

    static void badSentence(String marked, int kind) {
        RiverText x = Due.in(Due.LAND);
        Due.sentence(x, "number = 2");
        judged(x, marked, Due.sentence(x, plain(marked)), -1 - placeIn(marked), kind);
        Due.same("of whom the SENTENCE ahead is said behind " + marked, x.said(0), 2);
    }
}
