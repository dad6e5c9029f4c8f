/** Promises 38 (daybook) and 39 (booked). */
public final class DaybookTest {
    private static final int NONE = Due.NONE;

    public static void main(String[] args) {
        faults();
        judged();
        lived();
        booked();
        undone();
        Due.finish();
    }

    private static void bad(String text, int place, int kind) {
        RiverText x = Due.in(Due.LAND);
        Due.same(text, Due.daybook(x, text, 1), -2 - place);
        Due.same("fault of " + text, x.fault(), kind);
        Due.same("tape behind " + text, x.count(6), 0);
        Due.same("nothing is lived", x.now(0), 0);
        Due.same("nothing is booked", x.booked(1), NONE);
        Due.same("nothing can be undone", x.undo(), NONE);
    }

    private static void good(String text, int lines) {
        RiverText x = Due.in(Due.LAND);
        Due.same(text, Due.daybook(x, text, 0), NONE);
        Due.same("fault of " + text, x.fault(), 0);
        Due.same("tape behind " + text, x.count(6), 0);
        Due.same("LINES of " + text, x.booked(1), lines);
    }

    private static void faults() {
        good("", 0);
        good("day 1;day 99 ;\nta reads runs;", 3);
        good("ed sleeps;mo sleeps;ed wakes;", 3);
        bad("day 1", 5, 1);
        bad("day", 3, 1);
        bad("day ta;", 4, 1);
        bad("day 0;", 4, 2);
        bad("day 1;day 100;", 10, 2);
        bad("1;", 0, 1);
        bad(";", 0, 1);
        bad("reads fish;", 0, 1);
        bad("noun a;", 0, 1);
        bad("zz reads fish;", 0, 3);
        bad("fish reads fish;", 0, 3);
        bad("main wakes;", 0, 3);
        bad("ta wakes;", 3, 1);
        bad("ta fish;", 3, 1);
        bad("ed reads fish;", 3, 1);
        bad("ed;", 2, 1);
        bad("ta reads;", 8, 1);
        bad("ta reads 3;", 9, 1);
        bad("ta reads zz;", 9, 3);
        bad("ta reads tb;", 9, 3);
        bad("ta reads day;", 9, 1);
        bad("ed wakes day 1;", 9, 1);
        bad("day 1;ta reads none", 19, 1);
        String thirty = Due.times(30, "day 1;");
        good(thirty, 30);
        bad(thirty + "day 1;", 180, 4);
        bad(thirty + "day 0;", 180, 4);
        bad(thirty + "ed wakes;", 180, 4);
        bad(thirty + "zz wakes;", 180, 3);
        bad(thirty + "fish wakes;", 180, 3);
        bad(thirty + "reads;", 180, 1);
        bad(thirty + ";", 180, 1);
        good("day 1;" + Due.times(394, " "), 1);
        bad("day 1;" + Due.times(395, " "), 400, 1);
        bad(Due.times(395, " ") + "day 1;", 400, 1);
        bad(Due.times(399, " ") + "zzz;", 399, 3);
        bad(Due.times(400, " ") + "zzz;", 400, 1);
        bad("day 0;" + Due.times(399, " "), 4, 2);
    }

    private static void judged() {
        RiverText x = Due.in(Due.LAND);
        x.days(8);
        Due.same("none is WRONG", Due.daybook(x, "tc reads runs;day 2;tc reads none;ed sleeps;", 0), NONE);
        Due.same("all stays: DAY", x.now(0), 8);
        Due.same("all stays: EDITOR", x.editor(0, 2), 1);
        Due.same("all stays: no act", x.undo(), 0);
        x.days(8);
        Due.same("it read something else", Due.daybook(x, "day 1;ta reads fish;", 0), 1);
        Due.same("none is something else", Due.daybook(x, "ta reads none;", 0), 0);
        Due.same("awake already", Due.daybook(x, "ed wakes;", 0), 0);
        Due.same("asleep already", Due.daybook(x, "ed sleeps;ed wakes;ed sleeps;ed sleeps;", 0), 3);
        Due.same("the first one", Due.daybook(x, "day 1;ed wakes;ta reads none;", 0), 1);
        String most = "day 99;day 99;day 99;day 95;";
        Due.same("392 DAYS are left", Due.daybook(x, most, 0), NONE);
        Due.same("not 393", Due.daybook(x, most + "day 1;", 0), 4);
        Due.same("ahead of DAY 0 none was read", Due.daybook(Due.in(Due.LAND), "ta reads none;", 0), NONE);
        Due.same("ahead of DAY 0 no TERM was read", Due.daybook(Due.in(Due.LAND), "ta reads old;", 0), 0);
        Due.layText(x, "day 1;");
        Due.same("another lives", x.daybook(2), -1000);
        Due.same("another lives", x.daybook(-1), -1000);
        Due.same("the tape stays", x.count(6), 6);
        Due.same("it is read then", x.daybook(0), NONE);
    }

    private static void lived() {
        RiverText x = Due.in(Due.LAND);
        Due.same("none is WRONG", Due.daybook(x, "ed sleeps;day 3;ta reads king;", 1), NONE);
        Due.same("DAYS went by", x.now(0), 3);
        Due.same("ed sleeps", x.editor(0, 2), 0);
        Due.same("what was read is kept", x.well(0, 1), Due.OLD);
        Due.same("as far as it is not WRONG", Due.daybook(x, "day 2;mo wakes;day 9;", 1), 1);
        Due.same("2 DAYS more", x.now(0), 5);
        Due.same("WRONG at first", Due.daybook(x, "mo wakes;day 9;", 1), 0);
        Due.same("none is lived", x.now(0), 5);
        Due.same("two can be undone", x.undo(), 1);
        for (int i = 0; i < 4; i++) {
            x.days(96);
        }
        x.days(5);
        Due.same("DAY", x.now(0), 392);
        Due.same("fewer are left", Due.daybook(x, "day 5;day 4;", 1), 1);
        Due.same("the LINE that is WRONG is not lived in part", x.now(0), 397);
        Due.same("just as many are left", Due.daybook(x, "day 3;", 1), NONE);
        Due.same("all are over", x.now(0), 400);
    }

    private static void bookedIs(RiverText x, int... due) {
        for (int what = 0; what < due.length; what++) {
            Due.same("booked " + what, x.booked(what), due[what]);
        }
    }

    private static void booked() {
        RiverText x = Due.in(Due.LAND);
        bookedIs(x, NONE, NONE, NONE, NONE);
        Due.daybook(x, "day 8;", 0);
        bookedIs(x, 0, 1, 8, 3);
        Due.daybook(x, "day 5;day 3;ta reads dot;day 9;", 1);
        bookedIs(x, 2, 2, 8, 3);
        Due.daybook(x, "day 4;mo sleeps;mo sleeps;", 0);
        bookedIs(x, 3, 2, 12, 3);
        Due.daybook(x, "day 99;day 99;day 99;day 99;", 0);
        bookedIs(x, 1, 3, 305, 297 - 74);
        Due.daybook(x, "day 0;", 0);
        x.daybook(3);
        x.undo();
        Due.country(x, "");
        bookedIs(x, 1, 3, 305, 297 - 74);
        Due.same("another what", x.booked(4), NONE);
        Due.same("another what", x.booked(-1), NONE);
        x.end(0);
        x.daybook(1);
        bookedIs(x, 0, 0, 0, 0);
    }

    private static void undone() {
        RiverText x = Due.in(Due.LAND);
        x.days(4);
        Due.daybook(x, "ed sleeps;day 30;mo sleeps;day 3;mo sleeps;", 1);
        Due.same("DAYS went by", x.now(0), 37);
        Due.same("all of it is undone at once", x.undo(), 1);
        Due.same("DAY", x.now(0), 4);
        Due.same("ed is awake", x.editor(0, 2), 1);
        Due.same("mo is awake", x.editor(1, 2), 1);
        Due.daybook(x, "ta reads runs;", 1);
        Due.same("a LINE that reads is lived too", x.undo(), 1);
        Due.daybook(x, "", 1);
        Due.same("no LINE is lived", x.undo(), 0);
        Due.same("DAY", x.now(0), 0);
    }
}
