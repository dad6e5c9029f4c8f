import java.io.IOException;
import java.nio.file.Files;
import java.nio.file.Path;
import java.util.Set;
import java.util.TreeSet;

/** The document, as far as it is told where it lies (the property river.doc): what a test quotes must stand there. */
final class Doc {
    static final int PROMISES = 44;

    private static final String TEXT = read();
    private static final Set<Integer> NAMED = new TreeSet<>();

    private Doc() { }

    private static String read() {
        String place = System.getProperty("river.doc", "");
        if (place.isEmpty() || !Files.isReadable(Path.of(place))) {
            return "";
        }
        try {
            return Files.readString(Path.of(place)).replaceAll("\\s+", " ");
        } catch (IOException e) {
            return "";
        }
    }

    /** Whether these words stand under the promise or in what all promises rest on; they may be, without the document. */
    static boolean says(int promise, String words) {
        NAMED.add(promise);
        if (TEXT.isEmpty()) {
            return true;
        }
        int rest = TEXT.indexOf("## Promise 1:");
        int begin = TEXT.indexOf("## Promise " + promise + ":");
        int end = TEXT.indexOf(" ## ", begin + 1);
        return begin >= 0 && (TEXT.substring(begin, end).contains(words) || TEXT.substring(0, rest).contains(words));
    }

    static int named() {
        return NAMED.size();
    }
}
