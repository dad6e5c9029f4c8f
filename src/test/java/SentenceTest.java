/** Promises 40 (sentence) and 41 (said). */
public final class SentenceTest {
    private static final int NONE = Due.NONE;

    public static void main(String[] args) {
        faults();
        limits();
        parts();
        joined();
        said();
        Due.finish();
    }

    private static void bad(String text, int place, int kind) {
        RiverText x = Due.in(Due.LAND);
        Due.sentence(x, "number = 2");
        Due.same(text, Due.sentence(x, text), -1 - place);
        Due.same("fault of " + text, x.fault(), kind);
        Due.same("tape behind " + text, x.count(6), 0);
        Due.same("the SENTENCE stays", x.said(0), 2);
    }

    private static void good(String text, int ones) {
        RiverText x = Due.in(Due.LAND);
        Due.same(text, Due.sentence(x, text), ones);
        Due.same("fault of " + text, x.fault(), 0);
        Due.same("tape behind " + text, x.count(6), 0);
    }

    private static void faults() {
        bad("", 0, 1);
        bad(" ", 1, 1);
        bad(";", 0, 1);
        bad("sense;", 5, 1);
        bad("sense sense", 6, 1);
        bad("sense and", 9, 1);
        bad("sense or or sense", 9, 1);
        bad("and sense", 0, 1);
        bad("fish", 0, 1);
        bad("5", 0, 1);
        bad("not", 3, 1);
        bad("(sense", 6, 1);
        bad("()", 1, 1);
        bad("sense)", 5, 1);
        bad("(sense;", 6, 1);
        bad("reads", 5, 1);
        bad("reads none", 6, 1);
        bad("reads 1", 6, 1);
        bad("reads zz", 6, 3);
        bad("reads main", 6, 3);
        bad("on", 2, 1);
        bad("on fish", 3, 3);
        bad("on zz", 3, 3);
        bad("at 3", 3, 1);
        bad("at <", 4, 1);
        bad("at < fish", 5, 1);
        bad("at < = 3", 5, 1);
        bad("words > 1000", 8, 1);
        bad("words ( 1", 6, 1);
        bad("sense < 1", 6, 1);
        good("words>999", 1);
        good("not(reads fish or on main)and at<1", 5);
        good("\nsense\n", 1);
    }

    private static void limits() {
        String twenty = "sense" + Due.times(19, " or sense"); // 176 bytes
        good(twenty, 20);
        bad(twenty + " or sense", 180, 4);
        bad(twenty + " or not sense", 180, 4);
        bad(twenty + " or (sense)", 180, 4);
        bad(twenty + " or fish", 180, 1);
        String nots = Due.times(7, "not ");
        good(nots + "sense", 8);
        bad(nots + "not sense", 32, 4);
        bad(nots + "not zz", 32, 1);
        bad(nots + "(sense)", 29, 4);
        good("(((((((sense)))))))", 8);
        bad("((((((((sense))))))))", 8, 4);
        good("(((((((sense))))))) and (((((((sense)))))))", 16);
        good("not (not (not (not sense and sense) and sense))", 10);
        good("sense" + Due.times(195, " "), 1);
        bad("sense" + Due.times(196, " "), 200, 1);
        bad(Due.times(196, " ") + "sense", 200, 1);
        bad(Due.times(199, " ") + "senses", 199, 1);
        bad(Due.times(200, " ") + "senses", 200, 1);
        bad(Due.times(193, " ") + "reads zzz", 199, 3);
    }

    private static void holds(RiverText x, String text, int... towns) {
        Due.yes("good: " + text, Due.sentence(x, text) > 0);
        Due.same(text, x.said(NONE), towns.length);
        for (int k = 0; k < towns.length; k++) {
            Due.same(text + ": " + k, x.said(k), towns[k]);
        }
        Due.same(text + ": no more", x.said(towns.length), NONE);
    }

    /** Behind DAY 7: ta reads runs, has read 7, likes none; tb old, 5, none; tc runs, 2, of which it likes one. */
    private static RiverText eighthDay() {
        RiverText x = Due.in(Due.LAND);
        x.days(8);
        return x;
    }

    private static void parts() {
        RiverText x = eighthDay();
        holds(x, "reads runs", 0, 2);
        holds(x, "reads old", 1);
        holds(x, "reads king");
        holds(x, "on main", 1, 2);
        holds(x, "on up", 0);
        holds(x, "on side");
        holds(x, "at = 1", 0, 1);
        holds(x, "at > 1", 2);
        holds(x, "at < 1");
        holds(x, "words = 7", 0);
        holds(x, "words < 7", 1, 2);
        holds(x, "words > 2", 0, 1);
        holds(x, "liked = 0", 0, 1);
        holds(x, "liked > 0", 2);
        holds(x, "liked < 2", 0, 1, 2);
        holds(x, "number = 1", 1);
        holds(x, "number > 0", 1, 2);
        holds(x, "number < 1", 0);
        holds(x, "sense", 0, 1, 2);
        x.days(1);
        holds(x, "reads dot", 0, 2);
        x.days(1);
        // tb is two DAYS behind ta; what tc could have read was struck
        holds(x, "reads runs", 1);
        holds(x, "words = 3", 2);
        x.days(1);
        // tc: fish runs dot fish
        holds(x, "sense", 0, 1, 2);
        RiverText y = Due.in("noun a;verb b;reach r 2;says r b;town t r 0;town u r 1;");
        y.days(1);
        holds(y, "sense", 1);
        holds(y, "not sense", 0);
        y.days(1);
        holds(y, "sense");
    }

    private static void joined() {
        RiverText x = eighthDay();
        holds(x, "not reads runs", 1);
        holds(x, "not not reads runs", 0, 2);
        holds(x, "reads runs and on main", 2);
        holds(x, "reads runs or on main", 0, 1, 2);
        holds(x, "number = 0 or number = 1 and number = 2", 0);
        holds(x, "(number = 0 or number = 1) and number = 1", 1);
        holds(x, "number = 1 and number = 2 or number = 0", 0);
        holds(x, "not number = 0 and number < 2", 1);
        holds(x, "not (number = 0 and number < 2)", 1, 2);
        holds(x, "not number = 0 or number = 0", 0, 1, 2);
        holds(x, "number = 0 or number = 1 or number = 2", 0, 1, 2);
        holds(x, "number < 2 and number > 0 and at = 1", 1);
        holds(x, "((number = 0) or not (number = 2 or sense))", 0);
    }

    private static void said() {
        RiverText x = eighthDay();
        Due.same("there is no SENTENCE", x.said(NONE), NONE);
        Due.same("there is no SENTENCE", x.said(0), NONE);
        Due.sentence(x, "reads runs");
        Due.same("how many", x.said(NONE), 2);
        Due.same("none such", x.said(-2), NONE);
        Due.same("none such", x.said(2), NONE);
        x.days(1);
        Due.same("as it is now", x.said(NONE), 0);
        x.undo();
        Due.same("as it is now", x.said(NONE), 2);
        Due.country(x, Due.LAND);
        Due.same("a new COUNTRY has none", x.said(NONE), NONE);
        Due.country(x, "noun a;");
        Due.sentence(x, "sense");
        Due.same("no TOWNS", x.said(NONE), 0);
    }
}
