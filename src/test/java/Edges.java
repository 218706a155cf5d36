import java.io.IOException;
import java.nio.file.Files;
import java.nio.file.Path;
import java.util.regex.Matcher;
import java.util.regex.Pattern;

/**
 * Counts the answers at the document's edges. Each edge is told under the document's own words, so that words
 * without a test, and tests of words that the document does not have, are found.
 */
final class Edges {
    static final int NONE = ModuleRows.NONE;
    static final int LEAST = Integer.MIN_VALUE;
    static final int MOST = Integer.MAX_VALUE;
    /** Numbers that are neither a place nor a number of a ROW for any M. */
    static final int[] WILD = {-1, -2, 31, 256, 1 << 16, LEAST, MOST};
    static final int[] NO_PLACES = {-1, 4, 5, 256, LEAST, MOST};

    /** A call whose answer is looked at. */
    interface Call {
        long on(ModuleRows x);
    }

    private final Check check = new Check();
    private final String document;
    private final boolean[] quoted;
    private String words = "";
    private final String wholeOfRich = Seen.whole(rich());

    Edges(Path path) throws IOException {
        document = plain(Files.readString(path));
        quoted = new boolean[document.length()];
    }

    /** The promises and the terms alone, without headings and the calls' signatures, blanks made one. */
    private static String plain(String text) {
        String promised = text.replaceAll("(?s)\n## Not promised.*", "");
        String calls = promised.replaceAll("(?s)\n## The public face.*?\n## Terms", "\n## Terms");
        String lines = calls.replaceAll("```\\w*", "").replaceAll("(?m)^#.*$", "").replaceAll("(?m)^`[^`]*`: ", "");
        return lines.replaceAll("\\s+", " ").trim();
    }

    /** The words of the document whose edges come now. */
    void says(String quote) {
        words = quote;
        int at = document.indexOf(quote);
        check.due("the document has the words '" + quote + "' once", at >= 0 && document.lastIndexOf(quote) == at, true);
        for (int i = at; at >= 0 && i < at + quote.length(); i++) {
            quoted[i] = true;
        }
    }

    void due(String call, long got, long want) {
        check.due("'" + words + "': " + call, got, want);
    }

    void due(String call, boolean got, boolean want) {
        check.due("'" + words + "': " + call, got, want);
    }

    /** An object that has something of everything, so that whatever a refused call changed would be seen. */
    static ModuleRows rich() {
        ModuleRows x = Check.told("modulo 12 2;module;row 2 0;row 0 6;module;row 3 3;equation 4 6 is 2;equation 1 2 is 3;");
        x.clear(3, true);
        x.image(1);
        x.come(2, 4, 7, 0);
        x.times(3, 2, false, 3);
        Check.read(x, "modulo 31 1;");
        Check.feed(x, "modulo 7 1;module;row 3");
        return x;
    }

    /** A call on the rich object that answers so and changes nothing at all. */
    void refused(String call, Call made, long want) {
        ModuleRows x = rich();
        due(call, made.on(x), want);
        due(call + " changes nothing", Seen.whole(x).equals(wholeOfRich), true);
    }

    /** A call that is NONE without M, on each kind of object without M. */
    void refusedWithoutM(String call, Call made, long want) {
        due(call + " on a new object", made.on(new ModuleRows()), want);
        ModuleRows emptied = rich();
        Check.read(emptied, "");
        String before = Seen.now(emptied);
        due(call + " behind an empty TEXT", made.on(emptied), want);
        due(call + " without M changes nothing", Seen.now(emptied).equals(before), true);
        ModuleRows restored = new ModuleRows();
        restored.image(0);
        Check.read(restored, "modulo 12 2;module;row 1 1;equation 1 1 is 1;");
        restored.restore(0);
        due(call + " where no M was restored", made.on(restored), want);
    }

    void close(String name) {
        check.due("words of the document without a test: " + unquoted(), unquoted().isEmpty(), true);
        check.close(name);
    }

    /** The words that are in no quote; '====' and numbers of sections are no words. */
    private String unquoted() {
        StringBuilder bare = new StringBuilder();
        Matcher word = Pattern.compile("\\S*[a-zA-Z]\\S*").matcher(document);
        while (word.find()) {
            if (word.start() >= document.indexOf("An object is used") && !quoted[word.start()]) {
                bare.append(word.group()).append(' ');
            }
        }
        return bare.toString();
    }
}
