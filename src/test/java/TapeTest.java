/** Promises 1 (a new object), 2 (feed), 3 (end), 44 (count). */
public final class TapeTest {
    public static void main(String[] args) {
        aNewObject();
        feed();
        end();
        count();
        Due.finish();
    }

    private static void aNewObject() {
        RiverText x = new RiverText();
        for (int what = 0; what <= 6; what++) {
            Due.same("count of a new object", x.count(what), 0);
        }
        for (int what = 0; what <= 5; what++) {
            Due.same("now of a new object", x.now(what), 0);
        }
        Due.same("fault ahead of any", x.fault(), 0);
        Due.same("undo ahead of any", x.undo(), Due.NONE);
        Due.same("stones ahead of any", x.stones(), Due.NONE);
        Due.same("booked ahead of any", x.booked(0), Due.NONE);
        Due.same("saidAt ahead of any", x.saidAt(0), Due.NONE);
        Due.same("said ahead of any", x.said(Due.NONE), Due.NONE);
        Due.no("restore ahead of any", x.restore(0));
        Due.same("the empty tape is a COUNTRY", x.country(), 0);
    }

    private static void feed() {
        RiverText x = new RiverText();
        // "noun ab;verb cd;    ", the highest byte first
        Due.same("feed", x.feed(0x6e6f756e, 0x2061623b, 0x76657262, 0x2063643b, 0x20202020), 20);
        Due.same("what was fed", x.country(), 2);
        Due.same("TERMS fed", x.count(0), 2);
        Due.same("the tape is empty behind it", x.count(6), 0);
        for (int fed = 20; fed <= 940; fed += 20) {
            Due.same("feed", x.feed(0, 0, 0, 0, 0), fed);
        }
        Due.same("feed beyond 940", x.feed(0, 0, 0, 0, 0), Due.NONE);
        Due.same("none came", x.count(6), 940);
        x.end(921);
        Due.same("feed to 941", x.feed(0, 0, 0, 0, 0), Due.NONE);
        x.end(920);
        Due.same("feed to 940", x.feed(0, 0, 0, 0, 0), 940);
        x.end(0);
        x.feed(0xff000102, -1, 0, 0, 0);
        x.end(1);
        Due.same("bytes are 0 to 255: 255 is none", x.most(), Due.NONE);
    }

    private static void end() {
        RiverText x = new RiverText();
        Due.yes("end 0 of none", x.end(0));
        Due.no("end 1 of none", x.end(1));
        x.feed(0, 0, 0, 0, 0);
        Due.no("end below 0", x.end(-1));
        Due.no("end least", x.end(Integer.MIN_VALUE));
        Due.no("end 21 of 20", x.end(21));
        Due.same("all stay", x.count(6), 20);
        Due.yes("end 20 of 20", x.end(20));
        Due.yes("end 7", x.end(7));
        Due.same("7 stay", x.count(6), 7);
        Due.no("end 8 of 7", x.end(8));
        Due.same("more come behind them", x.feed(0, 0, 0, 0, 0), 27);
    }

    private static void count() {
        RiverText x = Due.in(Due.LAND);
        int[] due = {5, 3, 2, 2, 3, 2, 0};
        for (int what = 0; what < due.length; what++) {
            Due.same("count " + what, x.count(what), due[what]);
        }
        Due.same("count -1", x.count(-1), Due.NONE);
        Due.same("count 7", x.count(7), Due.NONE);
        x.feed(1, 2, 3, 4, 5);
        Due.same("bytes of the tape", x.count(6), 20);
    }
}
