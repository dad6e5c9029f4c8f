/** The edges of promises 1 (a new object), 2 (feed), 3 (end) and 44 (count). */
final class EdgesOfTape {
    private static final int NONE = Due.NONE;

    private EdgesOfTape() { }

    static void run() {
        anEmptyCountry();
        anEmptyTape();
        fiveHundredAndTwelveCalls();
        twentyBytes();
        highestFirst();
        howManyItHas();
        notMoreThan940();
        firstBytesAlone();
        notSoMany();
        anotherWhat();
    }

    private static void anEmptyCountry() {
        Due.promise(1, "An empty COUNTRY");
        RiverText x = new RiverText();
        for (int what = 0; what <= 5; what++) {
            Due.same("count(" + what + ")", x.count(what), 0);
            Due.same("now(" + what + ")", x.now(what), 0);
        }
        Due.same("term(0)", x.term(0), NONE);
        Due.same("reach(0, 0)", x.reach(0, 0), NONE);
        Due.same("editor(0, 0)", x.editor(0, 0), NONE);
        Due.throwsNoSuch("at(0, 0)", () -> x.at(0, 0));
        Due.throwsNoSuch("town(0, 0)", () -> x.town(0, 0));
        Due.same("DAYS go by in it too", x.days(99), 99);
        Due.same("nothing is on its way", x.now(1), 0);
        Due.same("no CLASHES", x.clashes(9), 0);
    }

    private static void anEmptyTape() {
        Due.promise(1, "an empty tape.");
        RiverText x = new RiverText();
        Due.same("count(6)", x.count(6), 0);
        Due.no("end(1)", x.end(1));
        Due.same("as a COUNTRY it has no LINES", x.country(), 0);
        Due.same("as a DAYBOOK it is not WRONG", x.daybook(1), NONE);
        Due.same("as a SENTENCE it has a FAULT at its end", x.sentence(), -1);
        Due.same("as a row it is not as told", x.most(), -2);
    }

    private static void fiveHundredAndTwelveCalls() {
        Due.promise(1, "An object is used for at most 512 calls after it has been made");
        RiverText x = new RiverText();
        for (int i = 0; i < 255; i++) {
            x.feed(0x6e6f756e, 0x20613b72, 0x65616368, 0x20722039, 0x3b202020); // noun a;reach r 9;
            x.country();
        }
        Due.yes("call 511", x.stone(0, 8, 0));
        Due.same("call 512", x.at(0, 8), 0);
    }

    private static void twentyBytes() {
        Due.promise(2, "Twenty bytes come behind the tape");
        RiverText x = new RiverText();
        x.feed(0x6e6f756e, 0x20616263, 0x64656667, 0x3b766572, 0x6220683b); // noun abcdefg;verb h;
        x.feed(0x73746f70, 0x20693b72, 0x65616368, 0x2072206a, 0x20202020); // stop i;reach r j
        Due.same("the FAULT is in the second twenty", x.country(), -1 - 35);
        x.feed(0x6e6f756e, 0x20616263, 0x64656667, 0x3b766572, 0x6220683b);
        x.feed(0x73746f70, 0x20693b72, 0x65616368, 0x20722039, 0x3b202020); // stop i;reach r 9;
        Due.same("LINES", x.country(), 4);
        Due.same("a name over three numbers", Due.sentence(x, "reads abcdefg"), 1);
    }

    private static void highestFirst() {
        Due.promise(2, "of each number the highest first");
        RiverText x = Due.in(Texts.TEN_TERMS);
        for (int n = 1; n <= 12; n++) {
            // 9 none none none 9 9 9 none 9 9 9 9
            x.feed(0x09ffffff, 0x090909ff, 0x09090909, -1, Integer.MIN_VALUE);
            x.end(n);
            int nines = n <= 4 ? 1 : n <= 7 ? n - 3 : n - 4;
            Due.same("most of the first " + n, x.most(), 2 * nines > n ? 9 : NONE);
        }
        x.feed(0x00000001, 0x00000100, 0, 0, 0);
        x.end(4);
        Due.same("none but the last one is 1", x.most(), 0);
        x.feed(Integer.MIN_VALUE, 0, 0, 0, 0);
        x.end(1);
        Due.same("128 is no TERM", x.most(), -2);
        x.feed(0x00800000, 0, 0, 0, 0);
        x.end(2);
        Due.same("128 is no TERM", x.most(), -2);
        x.feed(-1, -1, -1, -1, -1);
        Due.same("255 is none", x.most(), NONE);
    }

    private static void howManyItHas() {
        Due.promise(2, "how many it has");
        RiverText x = new RiverText();
        Due.same("feed", x.feed(0, 0, 0, 0, 0), 20);
        Due.same("feed", x.feed(1, 2, 3, 4, 5), 40);
        x.end(7);
        Due.same("feed behind 7", x.feed(0, 0, 0, 0, 0), 27);
        x.country();
        Due.same("feed behind a text that was read", x.feed(0, 0, 0, 0, 0), 20);
    }

    private static void notMoreThan940() {
        Due.promise(2, "NONE, and none come, if it would have more than 940");
        RiverText x = new RiverText();
        for (int fed = 20; fed <= 940; fed += 20) {
            Due.same("feed", x.feed(0x20202020, 0x20202020, 0x20202020, 0x20202020, 0x20202020), fed);
        }
        Due.same("feed to 960", x.feed(0, 0, 0, 0, 0), NONE);
        Due.same("bytes", x.count(6), 940);
        x.end(921);
        Due.same("feed to 941", x.feed(0, 0, 0, 0, 0), NONE);
        Due.same("bytes", x.count(6), 921);
        x.end(920);
        Due.same("feed to 940", x.feed(0x20202020, 0x20202020, 0x20202020, 0x20202020, 0x20202020), 940);
        Due.same("feed to 960", x.feed(-1, -1, -1, -1, -1), NONE);
        x.end(900);
        Due.same("what is there are blanks", x.country(), 0);
    }

    private static void firstBytesAlone() {
        Due.promise(3, "The tape has its first n bytes alone: true");
        RiverText x = new RiverText();
        Due.yes("end(0) of none", x.end(0));
        x.feed(0x6e6f756e, 0x20613b76, 0x65726220, 0x623b7374, 0x6f70); // noun a;verb b;st op
        Due.yes("end(20) of 20", x.end(20));
        Due.same("bytes", x.count(6), 20);
        Due.yes("end(7)", x.end(7));
        Due.same("bytes", x.count(6), 7);
        Due.yes("end(7) of 7", x.end(7));
        Due.same("noun a;", x.country(), 1);
        x.feed(-1, -1, -1, -1, -1);
        Due.yes("end(0) of 20", x.end(0));
        Due.same("bytes", x.count(6), 0);
        Due.same("it is empty", x.country(), 0);
    }

    private static void notSoMany() {
        Due.promise(3, "false, if it has not so many, or n is below 0");
        RiverText x = new RiverText();
        Due.no("end(1) of none", x.end(1));
        Due.same("bytes", x.count(6), 0);
        x.feed(0x6e6f756e, 0x20613b76, 0x65726220, 0x623b2020, 0x20202020);
        for (int n : new int[] {21, 940, Integer.MAX_VALUE, -1, -20, Integer.MIN_VALUE}) {
            Due.no("end(" + n + ") of 20", x.end(n));
            Due.same("bytes", x.count(6), 20);
        }
        x.end(14);
        Due.no("end(15) of 14, what was there is gone", x.end(15));
        Due.same("what is there stays", x.country(), 2);
    }

    private static void anotherWhat() {
        Due.promise(44, "NONE for another what.");
        RiverText x = Due.in(Due.LAND);
        for (int what : new int[] {-1, 7, 8, Integer.MIN_VALUE, Integer.MAX_VALUE}) {
            Due.same("count(" + what + ")", x.count(what), NONE);
        }
        int[] due = {5, 3, 2, 2, 3, 2, 0};
        for (int what = 0; what < due.length; what++) {
            Due.same("count(" + what + ")", x.count(what), due[what]);
        }
        x.feed(0, 0, 0, 0, 0);
        x.end(13);
        Due.same("count(6)", x.count(6), 13);
    }
}
