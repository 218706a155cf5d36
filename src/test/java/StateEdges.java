/** Edges of what is drawn, undone and kept, and of a new TEXT: promises 29 to 32. */
final class StateEdges {
    private static final int NONE = ModuleRows.NONE;
    private static final int ACTS = 14;

    private final Edges edges;

    StateEdges(Edges edges) {
        this.edges = edges;
    }

    void run() {
        draws();
        drawn();
        newText();
        undoEachAct();
        undoEight();
        undoAgain();
        undoForgotten();
        image();
        restore();
        restoreLeaves();
    }

    // ---- DRAWN

    /** The draws once more in long numbers, cut to 32 bits by hand. */
    private static final class Draws {
        private long s;

        Draws(int seed) {
            s = seed & 0xffffffffL;
        }

        int next(int n) {
            s = (s * 1103515245L + 12345L) & 0xffffffffL;
            return (int) ((s >> 8) % n);
        }
    }

    private void draws() {
        edges.says("DRAWN by a seed s: for each draw of n s becomes s * 1103515245 + 12345 (an int, wrapping), the draw is "
            + "(s >>> 8) % n: each DEED: a draw of 4 (a place), then WIDTH draws of M (a ROW): that comes to that MODULE");
        int[] seeds = {0, 1, -1, 5, Edges.MOST, Edges.LEAST, 1 << 30, -(1 << 30), 123456789};
        for (int seed : seeds) {
            for (int width = 1; width <= 3; width++) {
                for (int n = 1; n <= 4; n++) {
                    sameDeeds("modulo 30 " + width + ";", 30, width, n, seed);
                    sameDeeds("modulo 2 " + width + ";", 2, width, n, seed);
                }
                sameDeeds("modulo 16 " + width + ";", 16, width, 60, seed);
            }
        }
        edges.says("(without M: the first draw alone, nothing).");
        ModuleRows x = new ModuleRows();
        for (int seed : seeds) {
            edges.due("drawn(60, " + seed + ") without M", x.drawn(60, seed), 0);
        }
        edges.due("no act", x.now(3), 0);
        edges.due("no MODULE", x.many(0), NONE);
    }

    private void sameDeeds(String text, int m, int width, int n, int seed) {
        ModuleRows drawn = Check.told(text);
        ModuleRows told = Check.told(text);
        Draws draws = new Draws(seed);
        for (int deed = 0; deed < n; deed++) {
            int place = draws.next(4);
            int a = draws.next(m);
            int b = width > 1 ? draws.next(m) : 0;
            int c = width > 2 ? draws.next(m) : 0;
            told.come(place, a, b, c);
        }
        int sizes = told.many(0) + told.many(1) + told.many(2) + told.many(3);
        String call = "drawn(" + n + ", " + seed + ") with " + text;
        edges.due(call, drawn.drawn(n, seed), sizes);
        edges.due(call + " makes the same", Seen.told(drawn).equals(Seen.told(told)), true);
        edges.due(call + " is one act", drawn.now(3), 1);
    }

    private void drawn() {
        edges.says("n (1 to 60) DEEDS DRAWN by a seed: all SIZES together then; NONE: not as told.");
        for (int n : new int[] {0, -1, 61, 62, 256, Edges.LEAST, Edges.MOST}) {
            edges.refused("drawn(" + n + ", 1)", y -> y.drawn(n, 1), NONE);
            edges.refusedWithoutM("drawn(" + n + ", 1)", y -> y.drawn(n, 1), NONE);
        }
        for (int n : new int[] {1, 2, 59, 60}) {
            edges.refusedWithoutM("drawn(" + n + ", 1)", y -> y.drawn(n, 1), 0);
        }
        ModuleRows x = Check.told("modulo 30 3;");
        for (int place = 0; place < 4; place++) {
            x.clear(place, true);
        }
        edges.due("all that there can be", x.drawn(60, 1), 108000);
        ModuleRows y = Check.told("modulo 2 1;");
        int sizes = y.drawn(1, 3);
        edges.due("the least that there can be", sizes == 4 || sizes == 5, true);
    }

    // ---- a new TEXT

    private void newText() {
        edges.says("A new TEXT: places and EQUATIONS are as at first but for those that it tells, nothing can be undone.");
        for (String text : new String[] {"", "modulo 5 1;", "modulo 12 2;", "modulo 12 2;module;row 1 1;equation 1 1 is 1;"}) {
            ModuleRows x = Edges.rich();
            Check.read(x, text);
            edges.due("like a new object that is told '" + text + "'", Seen.now(x).equals(Seen.now(Check.told(text))), true);
            edges.due("nothing can be undone", x.undo(), NONE);
            edges.due("the image is kept", x.restore(1), true);
            edges.due("with its M", x.now(0), 12);
        }
        ModuleRows x = Edges.rich();
        Check.read(x, "modulo 12 2;module;module;");
        for (int place = 0; place < 4; place++) {
            edges.due("place " + place + " has nothing of the TEXT ahead", x.many(place), 1);
        }
        edges.due("nor are there EQUATIONS", x.now(2), 0);
    }

    // ---- undone

    /** Each act that can be undone, with what changes something. */
    private static int act(ModuleRows x, int act) {
        switch (act) {
            case 0: return x.come(2, 1, 1, 0);
            case 1: return x.clear(0, false);
            case 2: return x.clear(1, true);
            case 3: return x.join(0, 1, false, 3);
            case 4: return x.join(0, 1, true, 0);
            case 5: return x.upright(1, 2);
            case 6: return x.times(0, 2, false, 0);
            case 7: return x.times(1, 2, true, 1);
            case 8: return x.equate(0, 5, 6, 0, 7);
            case 9: return x.equate(x.now(2), 8, 9, 0, 10);
            case 10: return x.drop(0);
            case 11: return x.kernel(1);
            case 12: return x.sides(0);
            default: return x.drawn(5, 3);
        }
    }

    private static ModuleRows start() {
        return Check.told("modulo 12 2;module;row 2 0;row 0 6;module;row 3 3;equation 4 6 is 2;equation 1 2 is 3;");
    }

    private void undoEachAct() {
        edges.says("The latest come(), clear(), join(), upright(), times(), equate(), drop(), kernel(), sides() that was not "
            + "NONE, drawn() (with M) is undone:");
        for (int act = 0; act < ACTS; act++) {
            ModuleRows x = start();
            String before = Seen.told(x);
            edges.due("act " + act + " is not NONE", act(x, act) >= 0, true);
            edges.due("act " + act + " can be undone", x.now(3), 1);
            edges.due("act " + act + " changes something", Seen.told(x).equals(before), false);
            edges.due("act " + act + " is undone", x.undo(), 0);
            edges.due("all is as before act " + act, Seen.told(x).equals(before), true);
        }
        ModuleRows x = start();
        String before = Seen.told(x);
        x.come(0, 0, 0, 0);
        x.times(0, 1, false, 0);
        edges.due("acts that change nothing are acts", x.now(3), 2);
        edges.due("and one of them is undone", x.undo(), 1);
        x.come(0, 12, 0, 0);
        x.drawn(61, 1);
        x.kernel(4);
        edges.due("what is NONE is no act", x.now(3), 1);
        edges.due("what is undone is the latest that was not", x.undo(), 0);
        edges.due("as at first", Seen.told(x).equals(before), true);
    }

    private void undoEight() {
        edges.says("how many more can be (8 at most are kept); NONE: none is.");
        for (int count = 0; count <= 20; count++) {
            ModuleRows x = start();
            String[] seen = new String[count + 1];
            for (int k = 0; k < count; k++) {
                seen[k] = Seen.told(x);
                act(x, 1 + k % 2 * 2 + k % 5);
            }
            int kept = Math.min(count, 8);
            edges.due("acts kept of " + count, x.now(3), kept);
            for (int left = kept - 1; left >= 0; left--) {
                edges.due("left of " + count, x.undo(), left);
                edges.due("acts then", x.now(3), left);
                edges.due("all is as then", seen[count - kept + left].equals(Seen.told(x)), true);
            }
            String last = Seen.now(x);
            edges.due("none is", x.undo(), NONE);
            edges.due("nor once more", x.undo(), NONE);
            edges.due("and nothing changes", Seen.now(x).equals(last), true);
        }
        edges.refusedWithoutM("undo()", y -> y.undo(), NONE);
    }

    /** Acts behind undone ones: those that were undone don't come back, and the ring of eight goes round. */
    private void undoAgain() {
        edges.says("how many more can be (8 at most are kept); NONE: none is.");
        ModuleRows x = start();
        for (int turn = 0; turn < 5; turn++) {
            x.clear(0, true);
            x.clear(1, true);
            x.clear(2, true);
            x.undo();
            x.undo();
            edges.due("the first of turn " + turn, x.many(0), 144);
            x.clear(3, true);
            // eight at most were kept ahead of the two that were undone
            int kept = Math.min(7, 2 * turn + 2);
            edges.due("acts of turn " + turn, x.now(3), kept);
            edges.due("the second is undone", x.many(1), 4);
            edges.due("undone", x.undo(), kept - 1);
            edges.due("the fourth is undone", x.many(3), 1);
            x.clear(0, false);
        }
    }

    private void undoForgotten() {
        edges.says("how many more can be (8 at most are kept); NONE: none is.");
        ModuleRows x = start();
        x.clear(0, true);
        Check.read(x, "modulo 12 2;#");
        edges.due("a TEXT with a FAULT forgets nothing", x.now(3), 1);
        x.restore(0);
        x.image(2);
        edges.due("nor what is false", x.now(3), 1);
        x.image(0);
        edges.due("nor an image", x.now(3), 1);
        edges.due("undone", x.undo(), 0);
        edges.due("to the place as told", x.many(0), 12);
        x.clear(0, true);
        x.restore(0);
        edges.due("a restore() forgets all", x.undo(), NONE);
        x.clear(0, false);
        Check.read(x, "modulo 12 2;");
        edges.due("a TEXT forgets all", x.undo(), NONE);
    }

    // ---- images

    private void image() {
        edges.says("M, MODULES, EQUATIONS are kept in place k (0, 1): true; false: no such one.");
        for (int k : new int[] {-1, 2, 3, 256, Edges.LEAST, Edges.MOST}) {
            edges.refused("image(" + k + ")", y -> y.image(k) ? 1 : 0, 0);
            edges.refusedWithoutM("image(" + k + ")", y -> y.image(k) ? 1 : 0, 0);
        }
        for (int k = 0; k < 2; k++) {
            for (int act = 0; act < ACTS; act++) {
                ModuleRows x = start();
                String kept = Seen.told(x);
                edges.due("image(" + k + ")", x.image(k), true);
                act(x, act);
                edges.due("not in the other place", x.restore(1 - k), false);
                edges.due("restore(" + k + ") behind act " + act, x.restore(k), true);
                edges.due("all is as kept", Seen.told(x).equals(kept), true);
                edges.due("the image is kept on", act(x, act) >= 0 && x.restore(k) && Seen.told(x).equals(kept), true);
            }
        }
        ModuleRows x = start();
        x.image(0);
        x.clear(0, true);
        x.image(0);
        x.clear(0, false);
        x.image(1);
        x.restore(0);
        edges.due("the later one in place 0", x.many(0), 144);
        x.restore(1);
        edges.due("the one in place 1", x.many(0), 1);
    }

    private void restore() {
        edges.says("true; false: no such one, or nothing is kept there.");
        for (int k : new int[] {-1, 0, 2, 3, 256, Edges.LEAST, Edges.MOST}) {
            edges.refused("restore(" + k + ")", y -> y.restore(k) ? 1 : 0, 0);
        }
        ModuleRows x = new ModuleRows();
        edges.due("restore(0) of a new object", x.restore(0), false);
        edges.due("restore(1) of a new object", x.restore(1), false);
        x.image(1);
        edges.due("no M is kept, too", x.restore(1), true);
        edges.due("not in place 0", x.restore(0), false);
        Check.read(x, "modulo 30 3;module;row 1 2 3;equation 1 2 3 is 4;");
        edges.due("restore(1)", x.restore(1), true);
        edges.due("as a new object", Seen.now(x).equals(Seen.now(new ModuleRows())), true);
    }

    private void restoreLeaves() {
        edges.says("They are as kept in place k (the tape, what fault() tells, stays; nothing can be undone):");
        ModuleRows x = Edges.rich();
        edges.due("restore(1)", x.restore(1), true);
        edges.due("bytes of the tape stay", x.now(4), 23);
        edges.due("fault() stays", x.fault(), 2);
        edges.due("nothing can be undone", x.now(3), 0);
        edges.due("undo()", x.undo(), NONE);
        Check.feed(x, ";");
        edges.due("the tape is as it was", x.text(), 3);
        edges.due("and is read", x.now(0), 7);
        ModuleRows y = Edges.rich();
        Check.read(y, "modulo 30 3;module;row 1 2 3;equation 7 8 9 is 10;");
        edges.due("another M and WIDTH", y.restore(1), true);
        edges.due("M", y.now(0), 12);
        edges.due("WIDTH", y.now(1), 2);
        edges.due("EQUATIONS", y.now(2), 2);
        edges.due("as kept", y.many(3), 144);
        edges.due("no column of the wider ROWS", y.form(0, 2), NONE);
        edges.due("no number of the wider EQUATIONS", y.equation(0, 2), 0);
        edges.due("fault() of the latest text()", y.fault(), 0);
    }
}
