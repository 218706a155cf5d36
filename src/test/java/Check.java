import java.util.NoSuchElementException;

/** Counts answers that are as due and prints the others; the tests' common helpers. */
final class Check {
    /** What a throw of NoSuchElementException is told as, an answer no call gives. */
    static final long THROWN = Long.MIN_VALUE;

    private int passed;
    private int failed;

    void due(String call, long got, long want) {
        if (got == want) {
            passed++;
        } else {
            failed++;
            System.out.println(call + " answered " + said(got) + ", due is " + said(want));
        }
    }

    void due(String call, boolean got, boolean want) {
        due(call, got ? 1 : 0, want ? 1 : 0);
    }

    int failures() {
        return failed;
    }

    void close(String name) {
        System.out.println(name + ": " + passed + " passed, " + failed + " failed");
        if (failed > 0) {
            System.exit(1);
        }
    }

    private static String said(long answer) {
        return answer == THROWN ? "a throw of NoSuchElementException" : Long.toString(answer);
    }

    static long rowOf(ModuleRows x, int module, int rank) {
        try {
            return x.row(module, rank);
        } catch (NoSuchElementException e) {
            return THROWN;
        }
    }

    /** Feeds a text, 20 bytes at a time, and cuts what was fed too much. */
    static void feed(ModuleRows x, String text) {
        int before = x.now(4);
        for (int at = 0; at < text.length(); at += 20) {
            x.feed(four(text, at), four(text, at + 4), four(text, at + 8), four(text, at + 12), four(text, at + 16));
        }
        x.end(before + text.length());
    }

    static int read(ModuleRows x, String text) {
        x.end(0);
        feed(x, text);
        return x.text();
    }

    static ModuleRows told(String text) {
        ModuleRows x = new ModuleRows();
        if (read(x, text) < 0) {
            throw new IllegalArgumentException("the test's own text has a fault: " + text);
        }
        return x;
    }

    static int four(String text, int at) {
        int number = 0;
        for (int i = at; i < at + 4; i++) {
            number = number << 8 | (i < text.length() ? text.charAt(i) & 255 : 0);
        }
        return number;
    }
}
