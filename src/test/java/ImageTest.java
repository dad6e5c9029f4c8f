/** Promises 42 (image) and 43 (restore). */
public final class ImageTest {
    private static final int NONE = Due.NONE;

    public static void main(String[] args) {
        places();
        allThatIsSo();
        whatStays();
        keptApart();
        Due.finish();
    }

    private static void places() {
        RiverText x = new RiverText();
        Due.no("no such place", x.image(2));
        Due.no("no such place", x.image(-1));
        Due.no("nothing is kept", x.restore(0));
        Due.yes("an image of the empty COUNTRY", x.image(1));
        Due.no("nothing is kept there", x.restore(0));
        Due.no("no such place", x.restore(2));
        Due.no("no such place", x.restore(-1));
        Due.country(x, Due.LAND);
        Due.yes("restored", x.restore(1));
        Due.same("the empty COUNTRY", x.count(0), 0);
    }

    private static int[] all(RiverText x) {
        int[] told = new int[120];
        int n = 0;
        for (int what = 0; what < 6; what++) {
            told[n++] = x.now(what);
            told[n++] = x.count(what);
            for (int t = 0; t < 3; t++) {
                told[n++] = x.town(t, what);
            }
        }
        for (int what = 0; what < 5; what++) {
            told[n++] = x.editor(0, what);
            told[n++] = x.editor(1, what);
            told[n++] = x.makes(0, what);
            told[n++] = x.reach(1, what);
            told[n++] = x.term(what);
        }
        for (int r = 0; r < 3; r++) {
            for (int p = 0; p < x.reach(r, 0); p++) {
                told[n++] = x.at(r, p);
            }
            told[n++] = x.sense(r);
            told[n++] = x.sayings(r);
            told[n++] = x.well(r, 11);
            told[n++] = x.said(r);
            told[n++] = x.reach(r, 1);
            told[n++] = x.reach(r, 2);
            told[n++] = x.source(r);
            told[n++] = x.liked(r, 0, 20);
        }
        told[n++] = x.clashes(50);
        told[n++] = x.odds(2, 40, 3);
        return told;
    }

    private static void allThatIsSo() {
        RiverText x = Due.in(Due.LAND);
        x.wake(0, 0);
        x.days(10);
        x.drawn(4, 99);
        Due.sentence(x, "reads king or words > 9");
        int[] told = all(x);
        x.image(0);
        Due.country(x, "noun a;reach r 1;town t r 0;says r a;");
        x.days(80);
        Due.sentence(x, "sense");
        Due.yes("restored", x.restore(0));
        int[] again = all(x);
        for (int i = 0; i < told.length; i++) {
            Due.same("all is as kept (" + i + ")", again[i], told[i]);
        }
        Due.same("names are as kept", Due.daybook(x, "mo sleeps;ed wakes;day 1;", 1), NONE);
        Due.yes("restored once more", x.restore(0));
        again = all(x);
        for (int i = 0; i < told.length; i++) {
            Due.same("the image itself stays (" + i + ")", again[i], told[i]);
        }
    }

    private static void whatStays() {
        RiverText x = Due.in(Due.LAND);
        x.days(3);
        x.image(0);
        Due.same("an image can't be undone, but the DAYS can", x.undo(), 0);
        x.drawn(9, 4);
        int stones = x.stones();
        Due.daybook(x, "day 2;ed wakes;", 0);
        Due.saying(x, 0, Due.RUNS);
        Due.sentence(x, "zz");
        x.feed(1, 2, 3, 4, 5);
        Due.yes("restored", x.restore(0));
        Due.same("the tape stays", x.count(6), 20);
        Due.same("stones stay", x.stones(), stones);
        Due.same("the DAYBOOK stays told", x.booked(0), 3);
        Due.same("what was said stays", x.saidAt(0), Due.RUNS);
        Due.same("the FAULT stays", x.fault(), 1);
        Due.same("nothing can be undone", x.undo(), NONE);
        Due.same("no SENTENCE was kept", x.said(NONE), NONE);
        Due.no("nothing restored", x.restore(1));
    }

    private static void keptApart() {
        RiverText x = Due.in(Due.LAND);
        x.image(0);
        x.days(7);
        x.image(1);
        x.days(7);
        Due.no("nothing changes by a place that is none", x.restore(2));
        Due.same("one can still be undone twice", x.undo(), 1);
        x.restore(0);
        Due.same("place 0", x.now(0), 0);
        x.restore(1);
        Due.same("place 1", x.now(0), 7);
        x.image(0);
        x.days(1);
        x.restore(0);
        Due.same("place 0 is kept anew", x.now(0), 7);
        Due.same("its readings too", x.well(0, 2), Due.FISH);
    }
}
