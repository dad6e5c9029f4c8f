import java.nio.charset.StandardCharsets;
import java.util.Arrays;
import java.util.NoSuchElementException;
import java.util.function.IntSupplier;

/** What the tests share: comparing answers, and laying texts on the tape. */
final class Due {
    /** A COUNTRY with all that there is: two sources that join, EDITORS and TOWNS on both. */
    static final String LAND = "noun king;verb runs;like old;stop dot;noun fish;"
            + "reach main 4;reach up 2 into main;reach side 3 into main;"
            + "says up old king runs dot;says side fish;"
            + "editor ed up 1;turn ed king fish;editor mo main 2;strike mo old;"
            + "town ta up 1;town tb main 1;town tc main 3;taste tc fish;taste tb king;";
    static final int KING = 0;
    static final int RUNS = 1;
    static final int OLD = 2;
    static final int DOT = 3;
    static final int FISH = 4;
    static final int NONE = RiverText.NONE;

    private static int wrong = 0;
    private static String about = "";

    private Due() { }

    /** What comes next is about this promise, or what it rests on, in these words of the document. */
    static void promise(int number, String words) {
        about = "Promise " + number + " (" + words + "): ";
        if (!Doc.says(number, words)) {
            complain("the document does not say so");
        }
    }

    private static void complain(String what) {
        wrong++;
        System.out.println(about + what);
    }

    static void same(String what, long got, long want) {
        if (got != want) {
            complain(what + " answered " + got + ", due is " + want);
        }
    }

    static void yes(String what, boolean got) {
        same(what, got ? 1 : 0, 1);
    }

    static void no(String what, boolean got) {
        same(what, got ? 1 : 0, 0);
    }

    static void throwsNoSuch(String what, IntSupplier call) {
        try {
            call.getAsInt();
        } catch (NoSuchElementException e) {
            return;
        }
        complain(what + " did not throw");
    }

    static void lay(RiverText x, byte... bytes) {
        x.end(0);
        byte[] padded = Arrays.copyOf(bytes, (bytes.length + 19) / 20 * 20);
        for (int at = 0; at < padded.length; at += 20) {
            int[] five = new int[5];
            for (int i = 0; i < 20; i++) {
                five[i / 4] = five[i / 4] << 8 | padded[at + i] & 255;
            }
            x.feed(five[0], five[1], five[2], five[3], five[4]);
        }
        x.end(bytes.length);
    }

    static void layText(RiverText x, String text) {
        lay(x, text.getBytes(StandardCharsets.ISO_8859_1));
    }

    /** A row of TERMS, NONE for none. */
    static void layRow(RiverText x, int... terms) {
        byte[] bytes = new byte[terms.length];
        for (int i = 0; i < terms.length; i++) {
            bytes[i] = (byte) terms[i];
        }
        lay(x, bytes);
    }

    static int country(RiverText x, String text) {
        layText(x, text);
        return x.country();
    }

    static int sentence(RiverText x, String text) {
        layText(x, text);
        return x.sentence();
    }

    static int daybook(RiverText x, String text, int lives) {
        layText(x, text);
        return x.daybook(lives);
    }

    static RiverText in(String text) {
        RiverText x = new RiverText();
        if (country(x, text) < 0) {
            complain("no COUNTRY (fault " + x.fault() + "): " + text);
        }
        return x;
    }

    static long saying(RiverText x, int town, int... row) {
        layRow(x, row);
        return x.saying(town);
    }

    static int wish(RiverText x, int town, int... row) {
        layRow(x, row);
        return x.wish(town);
    }

    static int most(RiverText x, int... row) {
        layRow(x, row);
        return x.most();
    }

    static String times(int n, String text) {
        return text.repeat(n);
    }

    static void finish() {
        System.out.println(wrong == 0 ? "all answers are as due" : wrong + " answers are not as due");
        if (wrong != 0) {
            System.exit(1);
        }
    }
}
