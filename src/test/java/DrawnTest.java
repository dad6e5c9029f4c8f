/** Promises 35 to 37: DAYS drawn by a seed, their stones, odds. */
public final class DrawnTest {
    private static final int NONE = Due.NONE;

    public static void main(String[] args) {
        drawn();
        drawnLikeStones();
        stones();
        odds();
        Due.finish();
    }

    private static void drawn() {
        RiverText x = Due.in(Due.LAND);
        Due.same("0 DAYS", x.drawn(0, 1), NONE);
        Due.same("100 DAYS", x.drawn(100, 1), NONE);
        Due.same("no REACHES", Due.in("noun a;").drawn(1, 1), NONE);
        Due.same("nothing was done", x.undo(), NONE);
        Due.same("5 DAYS", x.drawn(5, 1), 5);
        Due.same("they went by", x.now(0), 5);
        Due.same("they can be undone", x.undo(), 0);
        Due.same("undone", x.now(0), 0);
        for (int i = 0; i < 4; i++) {
            Due.same("99 DAYS", x.drawn(99, i), 99);
        }
        Due.same("DAYS 396 to 399", x.drawn(99, 4), 4);
        Due.same("none is left", x.drawn(1, 5), 0);
        Due.same("no stones then", x.stones(), 0);
        Due.same("0 DAYS can't be undone", x.undo(), 3);
        Due.same("undone", x.now(0), 396);
        Due.same("without TERMS each stone is none", Due.in("reach r 3;").drawn(99, 3), 99);
    }

    private static int x;

    private static int draw(int n) {
        x = x * 1103515245 + 12345;
        return (x >>> 8) % n;
    }

    /** The same by stone() and days(), for seeds of all kinds. */
    private static void drawnLikeStones() {
        int thrown = 0;
        for (int seed : new int[] {0, 1, 2, -1, 77, 123456789, Integer.MIN_VALUE, Integer.MAX_VALUE}) {
            RiverText drawn = Due.in(Due.LAND);
            RiverText stoned = Due.in(Due.LAND);
            drawn.drawn(30, seed);
            x = seed;
            int stones = 0;
            for (int day = 0; day < 30; day++) {
                if (draw(4) == 0) {
                    int r = draw(3);
                    int place = draw(stoned.reach(r, 0));
                    int term = draw(6);
                    stoned.stone(r, place, term == 5 ? NONE : term);
                    stones++;
                }
                stoned.days(1);
            }
            thrown += stones;
            Due.same("stones by " + seed, drawn.stones(), stones);
            for (int what = 0; what < 6; what++) {
                Due.same("now by " + seed, drawn.now(what), stoned.now(what));
            }
            for (int t = 0; t < 3; t++) {
                for (int day = 0; day < 30; day++) {
                    Due.same("read by " + seed, drawn.well(t, day), stoned.well(t, day));
                }
            }
        }
        Due.yes("there were stones", thrown > 20);
    }

    private static void stones() {
        RiverText y = Due.in(Due.LAND);
        Due.same("ahead of any", y.stones(), NONE);
        y.drawn(0, 1);
        Due.same("drawn() was NONE", y.stones(), NONE);
        y.drawn(99, 1);
        int thrown = y.stones();
        Due.yes("some were thrown", thrown > 5 && thrown < 60);
        y.drawn(0, 1);
        y.odds(0, 3, 8);
        y.undo();
        Due.same("they stay told", y.stones(), thrown);
        y.drawn(1, 1);
        Due.yes("of the latest", y.stones() <= 1);
    }

    private static void odds() {
        RiverText y = Due.in("noun a;verb b;stop c;reach r 2;says r a b c;town t r 0;town u r 1;");
        Due.same("0 seeds", y.odds(0, 0, 1), NONE);
        Due.same("41 seeds", y.odds(0, 41, 1), NONE);
        Due.same("no such TOWN", y.odds(2, 1, 1), NONE);
        Due.same("no such TOWN", y.odds(-1, 1, 1), NONE);
        Due.same("a stone never comes to the first PLACE ahead of its reading", y.odds(0, 40, 5), 40);
        int sensible = 0;
        for (int i = 0; i < 40; i++) {
            RiverText z = Due.in("noun a;verb b;stop c;reach r 2;says r a b c;town t r 0;town u r 1;");
            z.drawn(30, Integer.MAX_VALUE - 3 + i);
            sensible += z.sense(1) == NONE ? 1 : 0;
        }
        Due.same("each seed by itself, beyond the greatest too", y.odds(1, 40, Integer.MAX_VALUE - 3), sensible);
        for (int seed = 0; seed < 300; seed++) {
            RiverText z = Due.in("noun a;verb b;stop c;reach r 2;says r a b c;town t r 0;town u r 1;");
            z.drawn(30, seed);
            Due.same("in 30 DAYS by " + seed, y.odds(1, 1, seed), z.sense(1) == NONE ? 1 : 0);
        }
        Due.same("all is as it was", y.now(0), 0);
        RiverText w = Due.in("noun a;verb b;reach r 1;says r a b b;town t r 0;");
        w.days(2);
        Due.same("no sense by the next TERM", w.odds(0, 7, 1), 0);
        RiverText v = Due.in("noun a;verb b;stop c;reach r 1;says r a b c;town t r 0;");
        for (int i = 0; i < 5; i++) {
            v.days(99);
        }
        Due.same("no DAYS are left", v.odds(0, 7, 1), 7);
        v.undo();
        Due.same("4 DAYS are left", v.odds(0, 7, 1), 7);
    }
}
