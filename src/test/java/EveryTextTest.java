/**
 * Every TEXT up to some TOKENS over a few WORDS and NUMBERS, told to ModuleRows and to the oracle alike. What stands
 * behind a FAULT can't change it, so only what has none yet is gone on with.
 */
public final class EveryTextTest {
    private static final String[] TOKENS = {
        "modulo", "module", "row", "equation", "is", "2", "3", ";", "x", "012", "#"
    };

    private final Check check = new Check();

    private EveryTextTest() {
    }

    public static void main(String[] args) {
        EveryTextTest test = new EveryTextTest();
        test.goOn("", 6);
        test.goOn("modulo 3 1;", 25);
        test.goOn("modulo 3 2;", 17);
        test.goOn("modulo 3 3;module;", 13);
        test.check.close("EveryTextTest");
    }

    private void goOn(String text, int left) {
        if (compare(text) && left > 0 && check.failures() < 20) {
            for (String token : TOKENS) {
                goOn(text + (token.equals(";") ? "" : " ") + token, left - 1);
            }
        }
    }

    /** Whether more can come behind the text: it has no FAULT, but for the end of a LINE that is missing. */
    private boolean compare(String text) {
        ModuleRows x = new ModuleRows();
        Oracle y = new Oracle();
        for (int at = 0; at < text.length(); at += 20) {
            int[] five = new int[5];
            for (int k = 0; k < 5; k++) {
                five[k] = Check.four(text, at + 4 * k);
            }
            x.feed(five[0], five[1], five[2], five[3], five[4]);
            y.feed(five);
        }
        x.end(text.length());
        y.end(text.length());
        int answer = x.text();
        check.due("text of '" + text + "'", answer, y.text());
        check.due("fault of '" + text + "'", x.fault(), y.fault());
        for (int what = 0; what < 3; what++) {
            check.due("now(" + what + ") of '" + text + "'", x.now(what), y.now(what));
        }
        if (answer > 0) {
            compareTold(text, x, y);
        }
        return answer >= 0 || answer == -1 - text.length();
    }

    private void compareTold(String text, ModuleRows x, Oracle y) {
        for (int k = 0; k < 12; k++) {
            check.due("form " + k + " of '" + text + "'", x.form(k / 3, k % 3), y.form(k / 3, k % 3));
            check.due("number " + k + " of '" + text + "'", x.equation(k / 4, k % 4), y.equation(k / 4, k % 4));
        }
    }
}
