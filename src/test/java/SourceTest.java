/** Promises 21 to 26: what is above a TOWN, its ONE SOURCE, what was SAID there, a WISH. */
public final class SourceTest {
    private static final int NONE = Due.NONE;
    /** Down one way of three REACHES, past two EDITORS. */
    private static final String CHAIN = "noun a;noun b;noun c;noun d;"
            + "reach low 3;reach mid 1 into low;reach top 2 into mid;says top a b c;"
            + "editor e top 0;turn e a b;editor f low 1;strike f c;turn f d a;"
            + "town t low 0;town u low 1;town v low 2;town w top 1;";

    public static void main(String[] args) {
        above();
        source();
        comes();
        saying();
        saidAt();
        wish();
        Due.finish();
    }

    private static void above() {
        RiverText x = Due.in(Due.LAND);
        Due.same("its own", x.above(0), 2);
        Due.same("all that flow into it", x.above(1), 7);
        Due.same("on and on", Due.in(CHAIN).above(0), 7);
        Due.same("on and on", Due.in(CHAIN).above(3), 4);
        Due.same("no such TOWN", x.above(3), NONE);
        Due.same("no such TOWN", x.above(-1), NONE);
        RiverText y = Due.in("reach a 1;reach b 1 into a;reach c 1;reach d 1 into b;reach e 1 into c;town t a 0;town u c 0;");
        Due.same("not those of another one", y.above(0), 1 + 2 + 8);
        Due.same("not those of another one", y.above(1), 4 + 16);
    }

    private static void source() {
        RiverText x = Due.in(Due.LAND);
        Due.same("itself", x.source(0), 1);
        Due.same("two flow into it", x.source(1), NONE);
        Due.same("no such TOWN", x.source(3), NONE);
        Due.same("no such TOWN", x.source(-1), NONE);
        Due.same("far above", Due.in(CHAIN).source(2), 2);
        Due.same("none says", Due.in("reach a 2;town t a 0;").source(0), NONE);
        Due.same("two flow into it, of which one says",
                Due.in("noun n;reach a 2;reach b 1 into a;reach c 1 into a;says b n;town t a 0;").source(0), NONE);
        Due.same("two flow into one above it",
                Due.in("noun n;reach z 1;reach a 2 into z;reach b 1 into a;reach c 1 into a;says b n;town t z 0;").source(0), NONE);
    }

    private static void comes() {
        RiverText x = Due.in(CHAIN);
        int[] atT = {1, 1, 2, 3};
        int[] atU = {1, 1, NONE, 0};
        for (int term = 0; term < 4; term++) {
            Due.same("ahead of f", x.comes(0, term), atT[term]);
            Due.same("at f", x.comes(1, term), atU[term]);
            Due.same("behind f", x.comes(2, term), atU[term]);
            Due.same("at the source", x.comes(3, term), atT[term]);
        }
        x.wake(0, 0);
        Due.same("e sleeps", x.comes(0, 0), 0);
        x.wake(1, 0);
        Due.same("f sleeps", x.comes(1, 2), 2);
        x.stone(0, 0, 3);
        Due.same("no stones", x.comes(0, 0), 0);
        Due.same("no such TERM", x.comes(0, 4), -2);
        Due.same("no such TERM", x.comes(0, -1), -2);
        Due.same("no such TOWN", x.comes(4, 0), -2);
        Due.same("no such TOWN", x.comes(-1, 0), -2);
        Due.same("no ONE SOURCE", Due.in(Due.LAND).comes(1, 0), -2);
        RiverText y = Due.in("noun a;noun b;reach ra 1;reach rb 1 into ra;reach rc 1 into rb;reach rd 1 into rc;"
                + "reach re 1 into rd;reach rf 1 into re;reach rg 1 into rf;reach rh 1 into rg;says rh a;"
                + "editor e ra 0;turn e a b;town t ra 0;");
        Due.same("the longest way", y.comes(0, 0), 1);
    }

    private static void saying() {
        RiverText x = Due.in(CHAIN);
        Due.same("b of a or b", Due.saying(x, 0, 1), 2);
        Due.same("the tape is empty then", x.count(6), 0);
        Due.same("a of none ahead of f", Due.saying(x, 0, 0), 0);
        Due.same("a of d behind f", Due.saying(x, 1, 0), 1);
        Due.same("none of c behind f", Due.saying(x, 1, NONE), 1);
        Due.same("none of none ahead of f", Due.saying(x, 0, NONE), 0);
        Due.same("ways of a row", Due.saying(x, 1, 1, 0, 1, NONE, 1), 8);
        Due.same("one can't be", Due.saying(x, 1, 1, 1, 3), 0);
        Due.same("15 TERMS", Due.saying(x, 0, 1, 1, 1, 1, 1, 1, 1, 1, 1, 1, 1, 1, 1, 1, 1), 1 << 15);
        Due.same("16 TERMS", Due.saying(x, 0, 1, 1, 1, 1, 1, 1, 1, 1, 1, 1, 1, 1, 1, 1, 1, 1), NONE);
        Due.same("no TERM", Due.saying(x, 0), NONE);
        Due.same("no such TERM", Due.saying(x, 0, 1, 4), NONE);
        Due.same("no such TERM", Due.saying(x, 0, 254), NONE);
        Due.same("the tape is empty then", x.count(6), 0);
        Due.same("no such TOWN", Due.saying(x, 4, 1), NONE);
        Due.same("the tape is empty then", x.count(6), 0);
        Due.same("no such TOWN", Due.saying(x, -1, 1), NONE);
        Due.same("no ONE SOURCE", Due.saying(Due.in(Due.LAND), 1, 1), NONE);
        x.wake(0, 0);
        Due.same("e sleeps", Due.saying(x, 0, 1), 1);
        String many = "";
        for (char c = 'b'; c <= 'j'; c++) {
            many += "noun " + c + ";";
        }
        String turns = "";
        for (char c = 'b'; c <= 'j'; c++) {
            turns += "turn ed " + c + " a;";
        }
        RiverText y = Due.in("noun a;" + many + "reach r 1;says r a;editor ed r 0;" + turns + "town t r 0;");
        Due.same("more ways than an int has", Due.saying(y, 0, new int[15]), 1000000000000000L);
    }

    private static void saidAt() {
        RiverText x = Due.in(CHAIN);
        Due.same("ahead of any", x.saidAt(0), NONE);
        Due.saying(x, 1, 1, 0, NONE);
        int[] least = {0, 3, 2};
        for (int i = 0; i < 3; i++) {
            Due.same("the least TERM " + i, x.saidAt(i), least[i]);
        }
        Due.same("none such", x.saidAt(3), NONE);
        Due.same("none such", x.saidAt(-1), NONE);
        Due.saying(x, 1, 3, 1);
        Due.saying(x, 1);
        Due.same("of the latest above 0", x.saidAt(1), 3);
        Due.saying(x, 0, 2);
        Due.same("of the latest above 0", x.saidAt(0), 2);
        Due.same("it has one TERM", x.saidAt(1), NONE);
        Due.country(x, "");
        Due.same("it stays told", x.saidAt(0), 2);
    }

    private static void wish() {
        RiverText x = Due.in(CHAIN);
        // says a b c: v reads b, b, none
        Due.same("as it is", Due.wish(x, 2, 1, 1, NONE, 1), 0);
        Due.same("the tape is empty then", x.count(6), 0);
        Due.same("others", Due.wish(x, 2, 1, 0, 1, 1), 2);
        Due.same("the first one only", Due.wish(x, 2, 0, 1, NONE), 1);
        Due.same("it can't be", Due.wish(x, 2, 1, 3), NONE);
        Due.same("it can't be", Due.wish(x, 0, NONE), NONE);
        x.days(2);
        Due.same("the next TERM first", Due.wish(x, 2, NONE, 1, 1), 0);
        x.wake(1, 0);
        Due.same("f sleeps", Due.wish(x, 2, 2, 1, 1), 0);
        Due.same("f sleeps", Due.wish(x, 2, NONE), NONE);
        Due.same("15 TERMS", Due.wish(x, 0, 3, 3, 3, 3, 3, 3, 3, 3, 3, 3, 3, 3, 3, 3, 3), 15);
        Due.same("16 TERMS", Due.wish(x, 0, 3, 3, 3, 3, 3, 3, 3, 3, 3, 3, 3, 3, 3, 3, 3, 3), NONE);
        Due.same("no TERM", Due.wish(x, 0), NONE);
        Due.same("no such TERM", Due.wish(x, 0, 4), NONE);
        Due.same("no such TOWN", Due.wish(x, 4, 1), NONE);
        Due.same("no such TOWN", Due.wish(x, -1, 1), NONE);
        Due.same("no ONE SOURCE", Due.wish(Due.in(Due.LAND), 1, 1), NONE);
    }
}
