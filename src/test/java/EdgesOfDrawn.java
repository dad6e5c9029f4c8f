/** The edges of promises 35 (drawn), 36 (stones), 37 (odds). */
final class EdgesOfDrawn {
    private static final int NONE = Due.NONE;
    private static final int[] FAR = {Integer.MIN_VALUE, -256, -3, 400, 1 << 16, 1 << 30, Integer.MAX_VALUE};
    private static final int[] SEEDS = {0, 1, -1, 5, 12345, 2147483583, Integer.MIN_VALUE, Integer.MAX_VALUE, -987654321};
    /** Whatever is thrown into r ahead of a DAY has gone into the sea, or to PLACE 1, by its reading. */
    private static final String SENSE = "noun a;verb b;stop c;reach r 2;says r a b c;town t r 0;town u r 1;";

    private EdgesOfDrawn() { }

    static void run() {
        eachDraw();
        stonesOfAllKinds();
        noneByTheLast();
        aheadOfADay();
        howManyWentBy();
        drawnNotAsTold();
        stonesOfTheLatest();
        stonesAheadOfAny();
        seedsOneByOne();
        thirtyDays();
        sensibleSoFar();
        oddsNotAsTold();
    }

    private static int x;

    private static int draw(int n) {
        x = x * 1103515245 + 12345;
        return (x >>> 8) % n;
    }

    /** Lives DAYS by stone() and days(): how many stones. */
    private static int liveAsDrawn(RiverText river, int days, int seed) {
        int stones = 0;
        x = seed;
        for (int i = 0; i < days && river.now(0) < 400; i++) {
            if (draw(4) == 0) {
                int r = draw(river.count(1));
                int place = draw(river.reach(r, 0));
                int term = draw(river.count(0) + 1);
                river.stone(r, place, term < river.count(0) ? term : NONE);
                stones++;
            }
            river.days(1);
        }
        return stones;
    }

    private static void alike(String land, int days, int seed) {
        RiverText drawn = Due.in(land);
        RiverText lived = Due.in(land);
        String what = days + " DAYS by " + seed + " in " + land;
        int stones = liveAsDrawn(lived, days, seed);
        Due.same(what, drawn.drawn(days, seed), days);
        Due.same("stones in " + what, drawn.stones(), stones);
        for (int i = 0; i < 6; i++) {
            Due.same("now(" + i + ") behind " + what, drawn.now(i), lived.now(i));
        }
        for (int r = 0; r < lived.count(1); r++) {
            for (int place = 0; place < lived.reach(r, 0); place++) {
                Due.same("at(" + r + ", " + place + ") behind " + what, drawn.at(r, place), lived.at(r, place));
            }
        }
    }

    private static void eachDraw() {
        Due.promise(35, "for each draw of n x becomes x * 1103515245 + 12345 (an int, wrapping), the draw is (x >>> 8) % n");
        for (int seed : SEEDS) {
            alike(Due.LAND, 25, seed);
        }
    }

    private static void stonesOfAllKinds() {
        Due.promise(35, "draws of all REACHES, of its PLACES, of all TERMS and 1 more");
        for (int seed : SEEDS) {
            alike("reach r 1;", 30, seed);
            alike("reach r 9;", 30, seed);
            alike("noun a;reach r 1;reach q 9;", 30, seed);
            alike(Texts.TEN_TERMS + "reach r 9;reach q 1 into r;", 30, seed);
        }
    }

    private static void noneByTheLast() {
        Due.promise(35, "what is there is that TERM (none by the last) from then on.");
        int some = 0;
        int none = 0;
        for (int seed = 0; seed < 300; seed++) {
            RiverText river = Due.in("noun a;reach r 1;reach q 9;says q a;");
            river.days(9);
            x = seed;
            boolean isThrown = draw(4) == 0;
            int r = draw(2);
            int place = draw(r == 0 ? 1 : 9);
            boolean isNone = draw(2) == 1;
            river.drawn(1, seed);
            if (isThrown && r == 1 && place < 8) {
                Due.same("by " + seed, river.at(1, place + 1), isNone ? NONE : 0);
                some += isNone ? 0 : 1;
                none += isNone ? 1 : 0;
            }
        }
        Due.yes("there were stones of both kinds", some > 5 && none > 5);
    }

    private static void aheadOfADay() {
        Due.promise(35, "each DAY, ahead of it: a draw of 4: 0: a stone:");
        for (int seed = 0; seed < 40; seed++) {
            RiverText river = Due.in("noun a;reach r 1;town t r 0;");
            river.drawn(99, seed);
            Due.same("a stone at the last PLACE is never read", river.town(0, 3), 0);
            Due.yes("but it came into the sea", river.now(3) > 0);
            Due.yes("but not what is none", river.now(3) < river.stones());
            Due.same("none is there", river.at(0, 0), NONE);
        }
    }

    private static void howManyWentBy() {
        Due.promise(35, "n (1 to 99) DAYS DRAWN by a seed: how many went by;");
        RiverText river = Due.in(Due.LAND);
        Due.same("drawn(1, 7)", river.drawn(1, 7), 1);
        Due.same("drawn(99, 7)", river.drawn(99, 7), 99);
        Due.same("DAY", river.now(0), 100);
        for (int i = 0; i < 3; i++) {
            river.drawn(99, i);
        }
        Due.same("DAY", river.now(0), 397);
        Due.same("3 are left", river.drawn(4, 7), 3);
        Due.same("none is left", river.drawn(4, 7), 0);
        river.undo();
        Due.same("just as many", river.drawn(3, 7), 3);
    }

    private static void drawnNotAsTold() {
        Due.promise(35, "how many went by; NONE: not as told, no REACHES.");
        RiverText river = Due.in(Due.LAND);
        river.days(2);
        Told.stays("drawn() refused", river, () -> {
            Due.same("drawn(0, 1)", river.drawn(0, 1), NONE);
            Due.same("drawn(100, 1)", river.drawn(100, 1), NONE);
            Due.same("drawn(-1, 1)", river.drawn(-1, 1), NONE);
            for (int n : FAR) {
                Due.same("drawn(" + n + ", 1)", river.drawn(n, 1), NONE);
            }
        });
        Due.same("just one act", river.undo(), 0);
        RiverText dry = Due.in("noun a;");
        Told.stays("drawn() refused", dry, () -> Due.same("no REACHES", dry.drawn(1, 1), NONE));
        Due.same("nothing was done", dry.undo(), NONE);
        Due.same("no COUNTRY", new RiverText().drawn(9, 1), NONE);
    }

    private static void stonesOfTheLatest() {
        Due.promise(36, "Stones of the latest drawn() that was not NONE;");
        RiverText river = Due.in("reach r 1;");
        int[] seeds = {3, 9, 2, 70};
        RiverText other = Due.in("reach r 1;");
        for (int seed : seeds) {
            river.drawn(30, seed);
            int stones = liveAsDrawn(other, 30, seed);
            Due.same("stones by " + seed, river.stones(), stones);
            river.drawn(0, seed);
            river.drawn(100, seed);
            Due.same("drawn() that was NONE leaves them", river.stones(), stones);
        }
        for (int i = 0; i < 3; i++) {
            river.days(99);
        }
        int told = river.stones();
        Due.yes("some", told > 0);
        Due.same("none is left", river.drawn(9, 1), 0);
        Due.same("no DAYS, no stones", river.stones(), 0);
    }

    private static void stonesAheadOfAny() {
        Due.promise(36, "NONE ahead of any.");
        RiverText river = Due.in(Due.LAND);
        Due.same("ahead of any", river.stones(), NONE);
        river.drawn(0, 1);
        river.odds(0, 5, 1);
        river.stone(0, 0, 0);
        Due.same("other calls do not count", river.stones(), NONE);
        RiverText dry = new RiverText();
        dry.drawn(1, 1);
        Due.same("drawn() that was NONE does not count", dry.stones(), NONE);
    }

    private static int sensible(String land, int town, int ahead, int days, int n, int seed) {
        int good = 0;
        for (int i = 0; i < n; i++) {
            RiverText river = Due.in(land);
            river.days(ahead);
            liveAsDrawn(river, days, seed + i);
            good += river.sense(town) == NONE ? 1 : 0;
        }
        return good;
    }

    private static void seedsOneByOne() {
        Due.promise(37, "Of n (1 to 40) seeds x, x and 1, .. by how many");
        RiverText river = Due.in(SENSE);
        int[] firsts = {0, 77, -20, Integer.MAX_VALUE - 5, Integer.MIN_VALUE};
        for (int first : firsts) {
            Due.same("40 seeds from " + first, river.odds(1, 40, first), sensible(SENSE, 1, 0, 30, 40, first));
        }
        int one = 0;
        for (int seed = 0; seed < 40; seed++) {
            one += river.odds(1, 1, seed);
        }
        Due.same("one by one", one, river.odds(1, 40, 0));
        Due.yes("some, not all", one > 0 && one < 40);
        Due.same("nothing is thrown to where t reads ahead of its reading", river.odds(0, 40, 0), 40);
    }

    private static void thirtyDays() {
        Due.promise(37, "all that a TOWN reads in 30 DAYS DRAWN from now on makes sense with what it read;");
        // a VERB, of no sense as the first TERM, comes to t on DAY 30, to u on DAY 29, if no stone is in its way
        String land = "noun a;verb b;reach m 9;reach n 9 into m;reach o 9 into n;reach p 4 into o;says p b;"
                + "town t m 8;town u m 7;";
        RiverText river = Due.in(land);
        int byDay30 = 0;
        int byDay29 = 0;
        for (int seed = 0; seed < 20; seed++) {
            int due = sensible(land, 0, 0, 30, 1, seed);
            Due.same("t in 30 DAYS by " + seed, river.odds(0, 1, seed), due);
            byDay30 += due - sensible(land, 0, 0, 31, 1, seed);
            due = sensible(land, 1, 0, 30, 1, seed);
            Due.same("u in 30 DAYS by " + seed, river.odds(1, 1, seed), due);
            byDay29 += sensible(land, 1, 0, 29, 1, seed) - due;
        }
        Due.yes("what comes on DAY 30 is left out by some seeds", byDay30 > 0);
        Due.yes("what comes on DAY 29 is not by some", byDay29 > 0);
        String still = "noun a;reach r 1;says r a;town t r 0;";
        Due.same("no sense on the second DAY", Due.in(still).odds(0, 3, 1), 0);
        Due.same("all is as it was", river.now(0), 0);
        Due.same("nothing to be undone", river.undo(), NONE);
    }

    private static void sensibleSoFar() {
        Due.promise(37, "makes sense with what it read;");
        String land = "noun a;verb b;stop c;reach r 1;says r a b c a b b a b c;town t r 0;";
        RiverText river = Due.in(land);
        Due.same("by DAY 5 it makes none", river.odds(0, 9, 1), 0);
        String once = "noun a;verb b;stop c;reach r 1;says r b c a;town t r 0;";
        RiverText later = Due.in(once);
        Due.same("it begins with a VERB", later.odds(0, 9, 1), 0);
        RiverText dry = Due.in("noun a;verb b;reach r 3;reach q 1;town t q 0;");
        Due.same("it never reads", dry.odds(0, 40, 1), 40);
        dry.days(99);
        Due.same("it never reads", dry.odds(0, 40, 1), 40);
        RiverText last = Due.in("noun a;verb b;stop c;reach r 1;says r a b c;town t r 0;");
        for (int i = 0; i < 4; i++) {
            last.days(99);
        }
        Due.same("4 DAYS are left", last.odds(0, 5, 1), 5);
        last.days(4);
        Due.same("none is left", last.odds(0, 5, 1), 5);
        RiverText broken = Due.in("noun a;reach r 1;says r a;town t r 0;");
        broken.days(99);
        Due.same("what it read makes none already", broken.odds(0, 5, 1), 0);
    }

    private static void oddsNotAsTold() {
        Due.promise(37, "makes sense with what it read; NONE: not as told, no such one.");
        RiverText river = Due.in(SENSE);
        Due.same("1 seed", river.odds(0, 1, 1), 1);
        Due.same("40 seeds", river.odds(0, 40, 1), 40);
        Due.same("0 seeds", river.odds(0, 0, 1), NONE);
        Due.same("41 seeds", river.odds(0, 41, 1), NONE);
        Due.same("-1 seeds", river.odds(0, -1, 1), NONE);
        Due.same("no such TOWN", river.odds(2, 1, 1), NONE);
        Due.same("no such TOWN", river.odds(-1, 1, 1), NONE);
        for (int far : FAR) {
            Due.same("odds(" + far + ", 1, 1)", river.odds(far, 1, 1), NONE);
            Due.same("odds(0, " + far + ", 1)", river.odds(0, far, 1), NONE);
        }
        Due.same("no COUNTRY", new RiverText().odds(0, 1, 1), NONE);
    }
}
