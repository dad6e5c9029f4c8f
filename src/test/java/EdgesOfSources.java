/** The edges of promises 22 (source), 23 (comes), 24 (saying), 25 (saidAt), 26 (wish). */
final class EdgesOfSources {
    private static final int NONE = Due.NONE;
    private static final int[] FAR = {Integer.MIN_VALUE, -256, -3, 400, 1 << 16, 1 << 30, Integer.MAX_VALUE};
    /** What w says comes to it; t and u, v, w, y: see ROWS. e: a to b, c struck; f: b to d; g: d to a. */
    private static final String CHAIN = "noun a;noun b;noun c;noun d;reach low 3;reach top 2 into low;says top a c d;"
            + "editor e top 1;turn e a b;strike e c;editor f low 0;turn f b d;editor g low 2;turn g d a;"
            + "town w top 0;town y top 1;town t low 0;town u low 1;town v low 2;";
    /** What each TOWN of CHAIN reads of a, b, c, d. */
    private static final int[][] ROWS = {{0, 1, 2, 3}, {1, 1, NONE, 3}, {3, 3, NONE, 3}, {3, 3, NONE, 3}, {0, 0, NONE, 0}};

    private EdgesOfSources() { }

    static void run() {
        justOneSays();
        noneOrNoSuchOne();
        ofEachTerm();
        editorsAsNow();
        noStones();
        comesNotToSuch();
        howManyWays();
        oneTo15Bytes();
        sayingNotAsTold();
        noOneToSayIt();
        theLeastTerms();
        latestAboveZero();
        noneSuch();
        fewestOthers();
        nextTermFirst();
        wishNotAsTold();
        itCantBe();
        noOneToWish();
    }

    private static void justOneSays() {
        Due.promise(22, "It has ONE SOURCE, if of these just one says and each has one at most that flows into it.");
        String[] lands = {"reach a 1;says a n;town t a 0;", "reach a 1;reach b 1 into a;says b n;town t a 0;",
            "reach a 1;reach b 1 into a;reach c 1 into b;says c n;town t a 0;", "reach a 1;town t a 0;",
            "reach a 1;reach b 1 into a;town t a 0;", "reach a 1;reach b 1 into a;reach c 1 into a;says b n;town t a 0;",
            "reach a 1;reach b 1 into a;reach c 1 into a;says b n;says c n;town t b 0;",
            "reach a 1;reach b 1 into a;reach c 1 into b;reach d 1 into b;says c n;says d n;town t a 0;",
            "reach a 1;reach b 1;says b n;town t a 0;", "reach a 1;reach b 1 into a;reach c 1;says b n;says c n;town t a 0;",
            "reach a 1;reach b 1 into a;reach c 1 into b;reach d 1 into b;says d n;town t c 0;"};
        int[] due = {0, 1, 2, NONE, NONE, NONE, 1, NONE, NONE, 1, NONE};
        for (int i = 0; i < lands.length; i++) {
            Due.same(lands[i], Due.in("noun n;" + lands[i]).source(0), due[i]);
        }
    }

    private static void noneOrNoSuchOne() {
        Due.promise(22, "NONE: it has none, no such one.");
        RiverText x = Due.in(CHAIN);
        for (int t = 0; t < 5; t++) {
            Due.same("source(" + t + ")", x.source(t), 1);
        }
        Due.same("source(5)", x.source(5), NONE);
        Due.same("source(-1)", x.source(-1), NONE);
        for (int t : FAR) {
            Due.same("source(" + t + ")", x.source(t), NONE);
        }
    }

    private static void ofEachTerm() {
        Due.promise(23, "What a TOWN with ONE SOURCE reads of a TERM that is said there");
        RiverText x = Due.in(CHAIN);
        for (int t = 0; t < ROWS.length; t++) {
            for (int term = 0; term < 4; term++) {
                Due.same("comes(" + t + ", " + term + ")", x.comes(t, term), ROWS[t][term]);
            }
        }
        String eight = "noun a;noun b;reach k 3;";
        for (char c = 'l'; c <= 'r'; c++) {
            eight += "reach " + c + " 3 into " + (char) (c - 1) + ";";
        }
        RiverText y = Due.in(eight + "says r a;editor e k 2;turn e a b;town t k 2;town u k 1;");
        Due.same("down eight REACHES, past an EDITOR there", y.comes(0, 0), 1);
        Due.same("down eight REACHES, short of it", y.comes(1, 0), 0);
        x.days(20);
        int[] said = {0, 2, 3};
        int[] later = {0, 1, 2, 3, 4};
        for (int t = 0; t < ROWS.length; t++) {
            for (int day = 0; day < 15; day++) {
                Due.same("so TOWN " + t + " reads it", x.well(t, day + later[t]), ROWS[t][said[day % 3]]);
            }
        }
    }

    private static void editorsAsNow() {
        Due.promise(23, "awake EDITORS as now;");
        RiverText x = Due.in(CHAIN);
        int[][] due = {{0, 0, 2, 0}, {0, 1, 2, 0}, {0, 1, 2, 3}};
        for (int e = 0; e < 3; e++) {
            x.wake(e, 0);
            for (int term = 0; term < 4; term++) {
                Due.same("asleep up to EDITOR " + e, x.comes(4, term), due[e][term]);
            }
        }
        x.undo();
        Due.same("g awake again", x.comes(4, 3), 0);
    }

    private static void noStones() {
        Due.promise(23, "no stones): the TERM, NONE;");
        RiverText x = Due.in(CHAIN);
        for (int place = 0; place < 3; place++) {
            x.stone(0, place, 1);
        }
        Due.same("comes(3, 0)", x.comes(3, 0), 3);
        Due.same("comes(3, 2)", x.comes(3, 2), NONE);
    }

    private static void comesNotToSuch() {
        Due.promise(23, "the TERM, NONE; -2: no such ones.");
        RiverText x = Due.in(CHAIN);
        Due.same("no such TERM", x.comes(0, 4), -2);
        Due.same("no such TERM", x.comes(0, -1), -2);
        Due.same("no such TOWN", x.comes(5, 0), -2);
        Due.same("no such TOWN", x.comes(-1, 0), -2);
        for (int far : FAR) {
            Due.same("comes(0, " + far + ")", x.comes(0, far), -2);
            Due.same("comes(" + far + ", 0)", x.comes(far, 0), -2);
        }
        Due.same("two sources", Due.in(Due.LAND).comes(1, 0), -2);
        Due.same("no source", Due.in("noun a;reach r 1;town t r 0;").comes(0, 0), -2);
    }

    private static void howManyWays() {
        Due.promise(24, "in how many ways TERMS (one for each) can have been said");
        RiverText x = Due.in(CHAIN);
        for (int t = 0; t < ROWS.length; t++) {
            for (int read = NONE; read < 4; read++) {
                int ways = 0;
                for (int term = 0; term < 4; term++) {
                    ways += ROWS[t][term] == read ? 1 : 0;
                }
                Due.same("TOWN " + t + " read " + read, Due.saying(x, t, read), ways);
                Due.same("twice", Due.saying(x, t, read, read), ways * ways);
            }
        }
        Due.same("3 * 1 * 3", Due.saying(x, 2, 3, NONE, 3), 9);
        Due.same("one of them can't be", Due.saying(x, 2, 3, NONE, 0), 0);
        x.wake(1, 0);
        Due.same("f sleeps", Due.saying(x, 2, 1, 3, NONE), 2);
    }

    private static void oneTo15Bytes() {
        Due.promise(24, "(1 to 15 bytes: TERMS, 255 none)");
        RiverText x = Due.in(CHAIN);
        Due.same("no bytes", Due.saying(x, 4), NONE);
        long ways = 1;
        for (int n = 1; n <= 15; n++) {
            ways *= 3;
            Due.same(n + " bytes", Due.saying(x, 4, new int[n]), ways);
            Due.same("the last TERM of the first way", x.saidAt(n - 1), 0);
        }
        Due.same("16 bytes", Due.saying(x, 4, new int[16]), NONE);
        Due.same("100 bytes", Due.saying(x, 4, new int[100]), NONE);
        Due.same("255 is none", Due.saying(x, 4, 255), 1);
        String turns = "";
        for (char c = 'b'; c <= 'j'; c++) {
            turns += "turn ed " + c + " a;";
        }
        RiverText y = Due.in(Texts.TEN_TERMS + "reach r 1;says r a;editor ed r 0;" + turns + "town t r 0;");
        Due.same("as many ways as there can be", Due.saying(y, 0, new int[15]), 1_000_000_000_000_000L);
    }

    private static void sayingNotAsTold() {
        Due.promise(24, "how many ways; NONE: not as told,");
        RiverText x = Due.in(CHAIN);
        Due.same("no such TERM", Due.saying(x, 0, 4), NONE);
        Due.same("no such TERM", Due.saying(x, 0, 0, 0, 254), NONE);
        Due.same("no such TERM", Due.saying(x, 0, 128, 0), NONE);
        Due.same("behind what can't be", Due.saying(x, 4, 3, 4), NONE);
        Due.same("the last TERM", Due.saying(x, 0, 3), 1);
        RiverText y = Due.in("reach r 1;town t r 0;");
        Due.same("no TERMS", Due.saying(y, 0, 255), NONE);
    }

    private static void noOneToSayIt() {
        Due.promise(24, "not as told, no ONE SOURCE, no such one.");
        RiverText x = Due.in(CHAIN);
        Due.same("TOWN 5", Due.saying(x, 5, 0), NONE);
        Due.same("TOWN -1", Due.saying(x, -1, 0), NONE);
        for (int t : FAR) {
            Due.same("TOWN " + t, Due.saying(x, t, 0), NONE);
        }
        Due.same("two sources", Due.saying(Due.in(Due.LAND), 1, 0), NONE);
        Due.same("no source", Due.saying(Due.in("noun a;reach r 1;town t r 0;"), 0, 255), NONE);
    }

    private static void theLeastTerms() {
        Due.promise(25, "The i-th TERM of the first way (the least TERMS)");
        RiverText x = Due.in(CHAIN);
        Due.saying(x, 1, 1, NONE, 3, 1);
        int[] due = {0, 2, 3, 0};
        for (int i = 0; i < due.length; i++) {
            Due.same("saidAt(" + i + ")", x.saidAt(i), due[i]);
        }
        x.wake(0, 0);
        Due.same("they stay told", x.saidAt(1), 2);
        Due.saying(x, 1, 1, 2, 3, 0);
        int[] asleep = {1, 2, 3, 0};
        for (int i = 0; i < asleep.length; i++) {
            Due.same("e sleeps: saidAt(" + i + ")", x.saidAt(i), asleep[i]);
        }
    }

    private static void latestAboveZero() {
        Due.promise(25, "of the latest saying() that was above 0;");
        RiverText x = Due.in(CHAIN);
        Due.saying(x, 1, 3, 1);
        Due.saying(x, 1, 1, 0);
        Due.same("the latest was 0", x.saidAt(0), 3);
        Due.saying(x, 1, 1, 9);
        Due.saying(x, 9, 1);
        Due.saying(x, 1);
        Due.wish(x, 1, 1);
        Due.same("the latest was NONE", x.saidAt(0), 3);
        Due.same("the latest was NONE", x.saidAt(1), 0);
        Due.saying(x, 1, NONE);
        Due.same("a shorter one", x.saidAt(0), 2);
        Due.same("it has one TERM", x.saidAt(1), NONE);
    }

    private static void noneSuch() {
        Due.promise(25, "NONE: none such, or ahead of any.");
        RiverText x = Due.in(CHAIN);
        Due.same("ahead of any", x.saidAt(0), NONE);
        Due.saying(x, 1, 0);
        Due.same("ahead of any above 0", x.saidAt(0), NONE);
        Due.saying(x, 4, new int[15]);
        Due.same("saidAt(14)", x.saidAt(14), 0);
        Due.same("saidAt(15)", x.saidAt(15), NONE);
        Due.same("saidAt(-1)", x.saidAt(-1), NONE);
        for (int i : FAR) {
            Due.same("saidAt(" + i + ")", x.saidAt(i), NONE);
        }
    }

    private static void fewestOthers() {
        Due.promise(26, "how many must be others;");
        RiverText x = Due.in(CHAIN);
        // the source says a c d a c d ..; u reads d, none, d
        Due.same("as it will be", Due.wish(x, 3, 3, NONE, 3, 3, NONE, 3), 0);
        Due.same("the first one", Due.wish(x, 3, NONE, NONE, 3), 1);
        Due.same("the last one", Due.wish(x, 3, 3, NONE, NONE), 1);
        Due.same("all", Due.wish(x, 3, NONE, 3, NONE), 3);
        Due.same("one", Due.wish(x, 3, NONE), 1);
        Due.same("where it is said", Due.wish(x, 0, 0, 2, 3), 0);
        Due.same("where it is said", Due.wish(x, 0, 1, 2, 2), 2);
        x.wake(0, 0);
        Due.same("e sleeps", Due.wish(x, 0, 0, 2, 3), 0);
        Due.same("e sleeps", Due.wish(x, 3, 0, 2, 3), 0);
    }

    private static void nextTermFirst() {
        Due.promise(26, "as its source would say from today on (its next TERM first)");
        RiverText x = Due.in(CHAIN);
        int[][] rows = {{3, NONE, 3, 3}, {NONE, 3, 3, NONE}, {3, 3, NONE, 3}};
        for (int day = 0; day < 7; day++) {
            for (int i = 0; i < rows.length; i++) {
                int others = 0;
                for (int k = 0; k < 4; k++) {
                    others += rows[i][k] == rows[day % 3][k] ? 0 : 1;
                }
                Due.same("row " + i + " ahead of DAY " + day, Due.wish(x, 3, rows[i]), others);
            }
            x.days(1);
        }
    }

    private static void wishNotAsTold() {
        Due.promise(26, "NONE: not as told, it can't be,");
        RiverText x = Due.in(CHAIN);
        Due.same("no bytes", Due.wish(x, 0), NONE);
        Due.same("1 byte", Due.wish(x, 0, 0), 0);
        Due.same("15 bytes", Due.wish(x, 0, 1, 1, 1, 1, 1, 1, 1, 1, 1, 1, 1, 1, 1, 1, 1), 15);
        Due.same("16 bytes", Due.wish(x, 0, 0, 2, 3, 0, 2, 3, 0, 2, 3, 0, 2, 3, 0, 2, 3, 0), NONE);
        Due.same("no such TERM", Due.wish(x, 0, 4), NONE);
        Due.same("no such TERM", Due.wish(x, 0, 0, 254), NONE);
    }

    private static void itCantBe() {
        Due.promise(26, "it can't be,");
        RiverText x = Due.in(CHAIN);
        Due.same("a is not read by u", Due.wish(x, 3, 0), NONE);
        Due.same("a is not read by u", Due.wish(x, 3, 3, NONE, 3, 1), NONE);
        Due.same("none is not read by w", Due.wish(x, 0, NONE), NONE);
        Due.same("none can be read by v", Due.wish(x, 4, NONE), 1);
    }

    private static void noOneToWish() {
        Due.promise(26, "no ONE SOURCE, no such one.");
        RiverText x = Due.in(CHAIN);
        Due.same("TOWN 5", Due.wish(x, 5, 0), NONE);
        Due.same("TOWN -1", Due.wish(x, -1, 0), NONE);
        for (int t : FAR) {
            Due.same("TOWN " + t, Due.wish(x, t, 0), NONE);
        }
        Due.same("two sources", Due.wish(Due.in(Due.LAND), 1, 1), NONE);
        Due.same("no source", Due.wish(Due.in("noun a;reach r 1;town t r 0;"), 0, 0), NONE);
    }
}
