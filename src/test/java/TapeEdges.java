/** Edges of a new object, of how long it may be used, and of the tape: promises 1, 2, 3, 5, 6. */
final class TapeEdges {
    private static final int NONE = ModuleRows.NONE;

    private final Edges edges;

    TapeEdges(Edges edges) {
        this.edges = edges;
    }

    void run() {
        lastCall();
        newObject();
        feed();
        bytesOfANumber();
        end();
        fault();
        now();
    }

    /** The 512th call is as good as the first; whatever counts calls inside must not run over ahead of it. */
    private void lastCall() {
        edges.says("An object is used for at most 512 calls after it has been made; what later calls answer is free.");
        ModuleRows x = new ModuleRows();
        for (int turn = 0; turn < 256; turn++) {
            edges.due("feed of turn " + turn, x.feed(0x6d6f6475, 0x6c6f2032, 0x20313b20, 0x20202020, 0x20202020), 20);
            edges.due("text of turn " + turn, x.text(), 1);
        }
        ModuleRows y = Check.told("modulo 30 3;");
        // Check has made five calls: end(), now(), feed(), end() and text()
        for (int turn = 5; turn < 511; turn++) {
            edges.due("act of turn " + turn, y.clear(turn & 3, turn % 3 == 0), turn % 3 == 0 ? 27000 : 1);
        }
        edges.due("the 512th call", y.undo(), 7);
    }

    private void newObject() {
        edges.says("No M (0), WIDTH 0 (no ROWS); an empty tape.");
        ModuleRows x = new ModuleRows();
        edges.due("M", x.now(0), 0);
        edges.due("WIDTH", x.now(1), 0);
        edges.due("bytes of the tape", x.now(4), 0);
        edges.due("no byte to be kept", x.end(1), false);
        edges.due("the tape as a TEXT", x.text(), 0);
        edges.due("no ROW of rank 0", Check.rowOf(new ModuleRows(), 0, 0), Check.THROWN);
        edges.due("not even the ROW 0", new ModuleRows().beside(0, 0, 0, 0), NONE);
    }

    private void feed() {
        edges.says("Twenty bytes come behind the tape, of each number the highest first: how many it has;");
        for (int length = 0; length <= 20; length++) {
            ModuleRows x = new ModuleRows();
            x.feed(0, 0, 0, 0, 0);
            x.end(length);
            edges.due("behind " + length + " bytes", x.feed(-1, -1, -1, -1, -1), length + 20);
        }
        edges.says("NONE, and none come, if it would have more than 540.");
        for (int length = 515; length <= 540; length++) {
            ModuleRows x = blankTape(540);
            x.end(length);
            boolean fits = length <= 520;
            edges.due("behind " + length, x.feed(1, 1, 1, 1, 1), fits ? length + 20 : NONE);
            edges.due("bytes behind " + length, x.now(4), fits ? length + 20 : length);
        }
        ModuleRows x = blankTape(540);
        x.feed(0x78787878, 0, 0, 0, 0);
        x.end(500);
        edges.due("nothing of it is on the tape", x.text(), 0);
    }

    private static ModuleRows blankTape(int length) {
        ModuleRows x = new ModuleRows();
        for (int at = 0; at < length; at += 20) {
            x.feed(0x20202020, 0x20202020, 0x20202020, 0x20202020, 0x20202020);
        }
        x.end(length);
        return x;
    }

    /** One wrong byte among blanks: its place tells where each byte of each number went. */
    private void bytesOfANumber() {
        edges.says("Twenty bytes come behind the tape, of each number the highest first: how many it has;");
        for (int at = 0; at < 20; at++) {
            int[] five = {0x20202020, 0x20202020, 0x20202020, 0x20202020, 0x20202020};
            int shift = 24 - 8 * (at % 4);
            // 160 is a blank with the highest bit set: a byte is no number below 0
            five[at / 4] += 0x80 << shift;
            ModuleRows x = blankTape(7);
            x.feed(five[0], five[1], five[2], five[3], five[4]);
            edges.due("the byte " + at, x.text(), -1 - (7 + at));
        }
    }

    private void end() {
        edges.says("The tape has its first n bytes alone: true; false, if it has not so many, or n is below 0.");
        for (int length : new int[] {0, 1, 19, 20, 21, 540}) {
            for (int n : new int[] {0, length, length - 1}) {
                ModuleRows x = blankTape(length);
                edges.due("end(" + n + ") of " + length, x.end(n), n >= 0);
                edges.due("bytes then", x.now(4), n >= 0 ? n : length);
            }
            for (int n : new int[] {length + 1, 541, -1, -length - 1, Edges.LEAST, Edges.MOST}) {
                ModuleRows x = blankTape(length);
                edges.due("end(" + n + ") of " + length, x.end(n), false);
                edges.due("all bytes are there", x.now(4), length);
            }
        }
        ModuleRows x = new ModuleRows();
        Check.feed(x, "modulo 7 1;xyz");
        x.end(11);
        Check.feed(x, "module;");
        edges.due("the first bytes alone, and those that come behind them", x.text(), 2);
        edges.refused("end(-1)", y -> y.end(-1) ? 1 : 0, 0);
        edges.refused("end(24)", y -> y.end(24) ? 1 : 0, 0);
        edges.refused("end of all bytes", y -> y.end(23) ? 1 : 0, 1);
    }

    private void fault() {
        edges.says("The kind of the FAULT of the latest text(); 0 without one and ahead of any.");
        ModuleRows x = new ModuleRows();
        edges.due("ahead of any", x.fault(), 0);
        Check.feed(x, "modulo 1 1;");
        edges.due("ahead of any, with a FAULT on the tape", x.fault(), 0);
        x.text();
        edges.due("of the latest", x.fault(), 2);
        edges.due("asked twice", x.fault(), 2);
        Check.feed(x, "modulo 2 1;");
        edges.due("stays till the next text()", x.fault(), 2);
        x.text();
        edges.due("without one", x.fault(), 0);
        Check.read(x, ";");
        edges.due("1 again", x.fault(), 1);
        x.text();
        edges.due("of an empty tape", x.fault(), 0);
        Check.read(x, "modulo 2 1;equation 0 is 0;equation 0 is 0;equation 0 is 0;equation");
        edges.due("3", x.fault(), 3);
    }

    private void now() {
        edges.says("0 M, 1 WIDTH, 2 EQUATIONS, 3 acts that can be undone, 4 bytes of the tape.");
        int[] rich = {12, 2, 2, 3, 23};
        for (int what = 0; what < rich.length; what++) {
            int asked = what;
            edges.refused("now(" + what + ")", x -> x.now(asked), rich[what]);
        }
        edges.says("NONE for another what.");
        for (int what : new int[] {-1, 5, 6, 256, Edges.LEAST, Edges.MOST}) {
            edges.refused("now(" + what + ")", x -> x.now(what), NONE);
            edges.due("now(" + what + ") of a new object", new ModuleRows().now(what), NONE);
        }
    }
}
