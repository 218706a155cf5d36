/** The promises one by one: ordinary inputs, the edges that the document names, wrong inputs. */
public final class PromisesTest {
    private static final int NONE = ModuleRows.NONE;
    private static final int LEAST = Integer.MIN_VALUE;
    private static final int MOST = Integer.MAX_VALUE;
    /** MODULE 0 has the rows 2 0 and 0 6, MODULE 1 the row 3 3. */
    private static final String TWELVE = "modulo 12 2; module; row 2 0; row 0 6; module; row 3 3;";

    private static final Check CHECK = new Check();

    private PromisesTest() {
    }

    public static void main(String[] args) {
        newObject();
        feed();
        end();
        text();
        textAgain();
        fault();
        now();
        lead();
        form();
        many();
        row();
        rank();
        beside();
        few();
        nought();
        lies();
        come();
        clear();
        join();
        upright();
        times();
        equate();
        drop();
        equation();
        solutions();
        solution();
        witness();
        kernel();
        sides();
        drawn();
        undo();
        undoEachAct();
        image();
        restore();
        CHECK.close("PromisesTest");
    }

    private static void due(String call, long got, long want) {
        CHECK.due(call, got, want);
    }

    private static void due(String call, boolean got, boolean want) {
        CHECK.due(call, got, want);
    }

    private static void newObject() {
        ModuleRows x = new ModuleRows();
        for (int what = 0; what <= 4; what++) {
            due("1: now(" + what + ")", x.now(what), 0);
        }
        due("1: fault()", x.fault(), 0);
        due("1: many(0)", x.many(0), NONE);
        due("1: NONE", ModuleRows.NONE, -1);
        due("1: restore(0)", x.restore(0), false);
        due("1: restore(1)", x.restore(1), false);
    }

    private static void feed() {
        ModuleRows x = new ModuleRows();
        for (int i = 1; i <= 27; i++) {
            due("2: feed " + i, x.feed(0, 0, 0, 0, 0), 20 * i);
        }
        due("2: feed beyond 540", x.feed(1, 1, 1, 1, 1), NONE);
        due("2: none came", x.now(4), 540);
        x.end(521);
        due("2: one byte too many", x.feed(1, 1, 1, 1, 1), NONE);
        due("2: still as before", x.now(4), 521);
        x.end(520);
        due("2: just 540", x.feed(1, 1, 1, 1, 1), 540);
        x.end(0);
        // "modulo 7 1;module;  " by hand, the highest byte of each number first
        due("2: a text", x.feed(0x6d6f6475, 0x6c6f2037, 0x20313b6d, 0x6f64756c, 0x653b2020), 20);
        due("2: read", x.text(), 2);
        due("2: M", x.now(0), 7);
        x.feed(-1, -1, -1, -1, -1);
        due("2: bytes of 255 are no TOKEN", x.text(), -1);
    }

    private static void end() {
        ModuleRows x = new ModuleRows();
        due("3: end(0) of an empty tape", x.end(0), true);
        due("3: end(1) of an empty tape", x.end(1), false);
        Check.feed(x, "modulo 7 1;module;rox");
        due("3: end(22)", x.end(22), false);
        due("3: end(-1)", x.end(-1), false);
        due("3: end(least)", x.end(LEAST), false);
        due("3: end(most)", x.end(MOST), false);
        due("3: all is there", x.now(4), 21);
        due("3: end(21)", x.end(21), true);
        due("3: end(18)", x.end(18), true);
        due("3: bytes", x.now(4), 18);
        due("3: end(19)", x.end(19), false);
        Check.feed(x, "row 3;");
        due("3: what comes behind the cut", x.text(), 3);
        due("3: many(0)", x.many(0), 7);
    }

    private static int read(String text) {
        return Check.read(new ModuleRows(), text);
    }

    private static void faulty(String text, int kind, int place) {
        ModuleRows x = Check.told("modulo 9 1;module;row 3;");
        x.come(1, 3, 0, 0);
        due("4: text of '" + text + "'", Check.read(x, text), -1 - place);
        due("5: fault of '" + text + "'", x.fault(), kind);
        due("4: the tape behind a FAULT", x.now(4), 0);
        due("4: M stays", x.now(0), 9);
        due("4: MODULES stay", x.many(0), 3);
        due("4: acts stay", x.now(3), 1);
    }

    private static String blanks(int count) {
        return " ".repeat(count);
    }

    private static void text() {
        due("4: empty", read(""), 0);
        due("4: blanks", read(" \n \n"), 0);
        due("4: modulo", read("modulo 2 1;"), 1);
        due("4: blanks everywhere", read("\n modulo\n30  3 ;\nmodule ; row\n0 29 07;"), 3);
        due("4: no blanks by the sign", read("modulo 12 1;module;row 3;equation 4 is 5;"), 4);
        due("4: 500 bytes", read("modulo 12 1;" + blanks(488)), 1);
        due("4: all kinds at their most",
            read("modulo 5 1;module;module;module;module;equation 1 is 1;equation 1 is 1;equation 1 is 1;"), 8);
        faulty(";", 1, 0);
        faulty("module;", 1, 0);
        faulty("modulo 5 1;modulo 5 1;", 1, 11);
        faulty("modulo 5 1;;", 1, 11);
        faulty("modulo 5 1", 1, 10);
        faulty("modulo 5", 1, 8);
        faulty("modulo", 1, 6);
        faulty("modulo  ", 1, 8);
        faulty("modulo5 1;", 1, 0);
        faulty("modulo 5a 1;", 1, 7);
        faulty("modulo 005 1;", 1, 7);
        faulty("moduloz 5 1;", 1, 0);
        faulty("modulo 5z 1;", 1, 7);
        faulty("modulo a5 1;", 1, 7);
        faulty("modulo 5{ 1;", 1, 8);
        faulty("modulo 5` 1;", 1, 8);
        faulty("modulo 5/ 1;", 1, 8);
        faulty("modulo 5: 1;", 1, 8);
        faulty("modulo 5 1 1;", 1, 11);
        faulty("modulo 5 1;module;row 1 1;", 1, 24);
        faulty("modulo 5 2;module;row 1;", 1, 23);
        faulty("modulo 5 1;row 9;", 1, 11);
        faulty("modulo 5 1;equation 1 1;", 1, 22);
        faulty("modulo 5 1;equation 1 ist 1;", 1, 22);
        faulty("modulo 5 1;equation 1 is;", 1, 24);
        faulty("modulo 5 1;module 1;", 1, 18);
        faulty("modulo 5\t1;", 1, 8);
        faulty("Modulo 5 1;", 1, 0);
        faulty("modulo 5 1;is", 1, 11);
        faulty("modulo 5 1;\u00e9", 1, 11);
        faulty("modulo 1 1;", 2, 7);
        faulty("modulo 0 1;", 2, 7);
        faulty("modulo 31 1;", 2, 7);
        faulty("modulo 99 9;", 2, 7);
        faulty("modulo 5 0;", 2, 9);
        faulty("modulo 5 4;", 2, 9);
        faulty("modulo 5 1;module;row 5;", 2, 22);
        faulty("modulo 5 2;module;row 4 99 x", 2, 24);
        faulty("modulo 5 2;equation 0 5", 2, 22);
        faulty("modulo 5 2;equation 0 4 is 5", 2, 27);
        faulty("modulo 5 1;module;module;module;module;module x", 3, 39);
        faulty("modulo 5 1;equation 1 is 1;equation 1 is 1;equation 1 is 1; equation 9", 3, 60);
        textTooLong();
    }

    private static void textTooLong() {
        String head = "modulo 12 1;module;";
        faulty(head + blanks(482), 1, 500);
        faulty(head + blanks(520), 1, 500);
        faulty(head + blanks(476) + "row 1;", 1, 500);
        faulty(head + blanks(478) + "row  1;", 1, 500);
        faulty(head + blanks(480) + "rox", 1, 499);
        faulty(head + blanks(477) + "row 123;", 1, 500);
        faulty(head + blanks(476) + "row 123;", 1, 499);
        faulty(head + blanks(476) + "row 12;", 2, 499);
        faulty(head + blanks(476) + "row 11;", 1, 500);
        faulty("x" + blanks(520), 1, 0);
        faulty("modulo 12 1;" + blanks(487) + "modules;", 1, 499);
        faulty("modulo 12 1;" + blanks(487) + "module;", 1, 500);
        faulty("modulo 12 1;" + blanks(488) + "x", 1, 500);
        faulty("modulo 12 1;module" + blanks(490), 1, 500);
    }

    /** A new TEXT: all but the images is told anew. */
    private static void textAgain() {
        ModuleRows x = Check.told("modulo 12 2;module;row 2 3;module;row 0 1;row 1 0;equation 1 2 is 3;");
        due("4: rows of the MODULE told last", x.many(1), 144);
        x.come(3, 1, 1, 0);
        x.image(0);
        due("4: again", Check.read(x, "modulo 6 3;module;module;equation 5 4 3 is 2;row 0 0 2;"), 5);
        due("4: M", x.now(0), 6);
        due("4: WIDTH", x.now(1), 3);
        due("4: a place as at first", x.many(0), 1);
        due("4: the row behind an EQUATION", x.form(1, 2), 2);
        due("4: a place that is not told", x.many(3), 1);
        due("4: EQUATIONS", x.now(2), 1);
        due("4: left side", x.equation(0, 2), 3);
        due("4: right side", x.equation(0, 3), 2);
        due("4: nothing can be undone", x.now(3), 0);
        due("4: undo()", x.undo(), NONE);
        due("4: empty", Check.read(x, ""), 0);
        due("4: no M", x.now(0), 0);
        due("4: WIDTH 0", x.now(1), 0);
        due("4: no EQUATIONS", x.now(2), 0);
        due("4: the image is kept", x.restore(0), true);
        due("4: its M", x.now(0), 12);
        due("4: its MODULE", x.form(3, 0), 10100);
    }

    private static void fault() {
        ModuleRows x = new ModuleRows();
        due("5: ahead of any text()", x.fault(), 0);
        Check.read(x, "modulo 40 1;");
        due("5: kind 2", x.fault(), 2);
        x.end(0);
        x.image(0);
        x.restore(0);
        due("5: stays with restore()", x.fault(), 2);
        Check.read(x, "modulo 4 1;x");
        due("5: kind 1", x.fault(), 1);
        Check.read(x, "modulo 4 1;");
        due("5: without one", x.fault(), 0);
        Check.read(x, "modulo 4 1;module;module;module;module;module;");
        due("5: kind 3", x.fault(), 3);
        Check.read(x, "");
        due("5: of an empty TEXT", x.fault(), 0);
    }

    private static void now() {
        ModuleRows x = Check.told("modulo 30 3;equation 1 2 3 is 4;equation 0 0 0 is 0;");
        x.come(0, 1, 0, 0);
        x.feed(0, 0, 0, 0, 0);
        due("6: M", x.now(0), 30);
        due("6: WIDTH", x.now(1), 3);
        due("6: EQUATIONS", x.now(2), 2);
        due("6: acts", x.now(3), 1);
        due("6: bytes", x.now(4), 20);
        due("6: another what", x.now(5), NONE);
        due("6: -1", x.now(-1), NONE);
        due("6: least", x.now(LEAST), NONE);
    }

    private static void lead() {
        ModuleRows x = Check.told(TWELVE);
        due("7: lead(0, 0)", x.lead(0, 0), 2);
        due("7: lead(0, 1)", x.lead(0, 1), 6);
        due("7: 0 is none", x.lead(1, 1), 0);
        due("7: column 2", x.lead(0, 2), NONE);
        due("7: column -1", x.lead(0, -1), NONE);
        due("7: place 4", x.lead(4, 0), NONE);
        due("7: place -1", x.lead(-1, 0), NONE);
        due("7: most", x.lead(MOST, MOST), NONE);
        // 5 times 5 1 is 1 5
        due("7: of one row", Check.told("modulo 12 2;module;row 5 1;").lead(0, 0), 1);
        // 3 times 4 1 is 0 3
        due("7: behind a 0", Check.told("modulo 12 2;module;row 4 1;").lead(0, 1), 3);
        due("7: no M", new ModuleRows().lead(0, 0), NONE);
    }

    private static void form() {
        ModuleRows x = Check.told(TWELVE);
        due("8: form(0, 0)", x.form(0, 0), 20000);
        due("8: form(0, 1)", x.form(0, 1), 600);
        due("8: there is none", x.form(1, 1), NONE);
        due("8: column 2", x.form(0, 2), NONE);
        due("8: place 4", x.form(4, 0), NONE);
        due("8: least", x.form(LEAST, LEAST), NONE);
        ModuleRows y = Check.told("modulo 12 2;module;row 4 7;");
        // rows 4 7, 8 2, 0 9, 4 4, 8 11, 0 6, 4 1, ..: the first with 4 is 4 1
        due("8: the first one", y.form(0, 0), 40100);
        due("8: behind a 0", y.form(0, 1), 300);
        due("8: WIDTH 1", Check.told("modulo 10 1;module;row 8;").form(0, 0), 20000);
        due("8: WIDTH 3", Check.told("modulo 30 3;module;row 29 28 27;").form(0, 0), 10203);
        due("8: no M", new ModuleRows().form(0, 0), NONE);
    }

    private static void many() {
        ModuleRows x = Check.told(TWELVE);
        due("9: many(0)", x.many(0), 12);
        due("9: many(1)", x.many(1), 4);
        due("9: the ROW 0 alone", x.many(3), 1);
        due("9: place 4", x.many(4), NONE);
        due("9: place -1", x.many(-1), NONE);
        due("9: no M", new ModuleRows().many(0), NONE);
        due("9: all", Check.told("modulo 30 3;module;row 1 0 0;row 0 7 0;row 0 0 29;").many(0), 27000);
    }

    private static void row() {
        ModuleRows x = Check.told("modulo 12 2;module;row 4 7;");
        int[] rows = {0, 300, 600, 900, 40100, 40400, 40700, 41000, 80200, 80500, 80800, 81100};
        for (int rank = 0; rank < rows.length; rank++) {
            due("10: row(0, " + rank + ")", Check.rowOf(x, 0, rank), rows[rank]);
        }
        due("10: rank 12", Check.rowOf(x, 0, 12), Check.THROWN);
        due("10: rank -1", Check.rowOf(x, 0, -1), Check.THROWN);
        due("10: least", Check.rowOf(x, 0, LEAST), Check.THROWN);
        due("10: most", Check.rowOf(x, 0, MOST), Check.THROWN);
        due("10: place 4", Check.rowOf(x, 4, 0), Check.THROWN);
        due("10: place -1", Check.rowOf(x, -1, 0), Check.THROWN);
        due("10: no M", Check.rowOf(new ModuleRows(), 0, 0), Check.THROWN);
        due("10: the ROW 0 alone", Check.rowOf(x, 1, 0), 0);
        due("10: no other", Check.rowOf(x, 1, 1), Check.THROWN);
    }

    private static void rank() {
        ModuleRows x = Check.told("modulo 12 2;module;row 4 7;");
        due("11: the first", x.rank(0, 0, 0, 0), 0);
        due("11: rank(4, 7)", x.rank(0, 4, 7, 0), 6);
        due("11: the last", x.rank(0, 8, 11, 0), 11);
        due("11: not in it", x.rank(0, 4, 8, 0), NONE);
        due("11: nor this", x.rank(0, 1, 0, 0), NONE);
        due("11: beyond WIDTH", x.rank(0, 4, 7, 1), NONE);
        due("11: 12 is no number", x.rank(0, 4, 12, 0), NONE);
        due("11: -1 is none", x.rank(0, -8, 7, 0), NONE);
        due("11: place 4", x.rank(4, 0, 0, 0), NONE);
        due("11: place -1", x.rank(-1, 0, 0, 0), NONE);
        due("11: no M", new ModuleRows().rank(0, 0, 0, 0), NONE);
    }

    private static void beside() {
        ModuleRows x = Check.told("modulo 12 2;module;row 4 7;");
        // less 8 11 that is 3 0
        due("12: beside(11, 11)", x.beside(0, 11, 11, 0), 30000);
        due("12: beside(3, 2)", x.beside(0, 3, 2, 0), 30200);
        due("12: beside(7, 3)", x.beside(0, 7, 3, 0), 30200);
        due("12: in it", x.beside(0, 8, 2, 0), 0);
        due("12: of the ROW 0 alone", x.beside(1, 11, 11, 0), 111100);
        due("12: beyond WIDTH", x.beside(0, 1, 1, 1), NONE);
        due("12: 12 is no number", x.beside(0, 12, 1, 0), NONE);
        due("12: -1 is none", x.beside(0, 1, -1, 0), NONE);
        due("12: place 4", x.beside(4, 1, 1, 0), NONE);
        due("12: no M", new ModuleRows().beside(0, 0, 0, 0), NONE);
    }

    private static void few() {
        ModuleRows x = Check.told("modulo 12 3;module;row 4 0 0;row 0 3 0;module;row 6 0 0;row 0 6 0;row 0 0 6;"
            + "module;row 2 0 0;row 0 3 0;");
        due("13: 4 and 3 together", x.few(0), 1);
        due("13: three halves", x.few(1), 3);
        due("13: 2 and 3 share 2", x.few(2), 2);
        due("13: the ROW 0 alone", x.few(3), 0);
        due("13: place 4", x.few(4), NONE);
        due("13: place -1", x.few(-1), NONE);
        due("13: no M", new ModuleRows().few(0), NONE);
        // the FORM has two rows, 4 1 and 0 3, but one row makes it
        due("13: fewer than in the FORM", Check.told("modulo 12 2;module;row 4 1;").few(0), 1);
    }

    private static void nought() {
        ModuleRows x = Check.told("modulo 12 2;module;row 4 0;module;row 4 0;row 0 6;module;row 8 2;");
        due("14: 4", x.nought(0), 3);
        due("14: 4 and 6", x.nought(1), 6);
        due("14: 8 2", x.nought(2), 6);
        due("14: the ROW 0 alone", x.nought(3), 1);
        x.clear(3, true);
        due("14: all", x.nought(3), 12);
        due("14: place 4", x.nought(4), NONE);
        due("14: place -1", x.nought(-1), NONE);
        due("14: no M", new ModuleRows().nought(0), NONE);
    }

    private static void lies() {
        ModuleRows x = Check.told("modulo 12 1;module;row 2;module;row 4;module;row 3;module;row 10;");
        due("15: alike", x.lies(0, 3), 0);
        due("15: itself", x.lies(1, 1), 0);
        due("15: all of s in t", x.lies(1, 0), 1);
        due("15: all of t in s", x.lies(0, 1), 2);
        due("15: neither", x.lies(0, 2), 3);
        due("15: place 4", x.lies(4, 0), NONE);
        due("15: place 4 behind", x.lies(0, 4), NONE);
        due("15: place -1", x.lies(-1, 0), NONE);
        due("15: no M", new ModuleRows().lies(0, 0), NONE);
    }

    private static void come() {
        ModuleRows x = Check.told("modulo 12 2;");
        due("16: come(4, 7)", x.come(2, 4, 7, 0), 12);
        due("16: the first one", x.form(2, 0), 40100);
        due("16: one in it", x.come(2, 8, 2, 0), 12);
        due("16: an act all the same", x.now(3), 2);
        due("16: one more", x.come(2, 6, 0, 0), 24);
        // 6 0 less 4 1 is 2 11, and 11 less three times 3 is 2
        due("16: 2 2", x.form(2, 0), 20200);
        due("16: no other place", x.many(0), 1);
        due("16: beyond WIDTH", x.come(2, 0, 0, 1), NONE);
        due("16: 12 is no number", x.come(2, 0, 12, 0), NONE);
        due("16: -1 is none", x.come(2, -1, 0, 0), NONE);
        due("16: place 4", x.come(4, 0, 0, 0), NONE);
        due("16: place -1", x.come(-1, 0, 0, 0), NONE);
        due("16: no acts", x.now(3), 3);
        due("16: no M", new ModuleRows().come(0, 0, 0, 0), NONE);
    }

    private static void clear() {
        ModuleRows x = Check.told(TWELVE);
        due("17: all", x.clear(0, true), 144);
        due("17: its FORM", x.form(0, 0), 10000);
        due("17: and", x.form(0, 1), 100);
        due("17: the ROW 0 alone", x.clear(1, false), 1);
        due("17: no FORM", x.form(1, 0), NONE);
        due("17: place 4", x.clear(4, true), NONE);
        due("17: place -1", x.clear(-1, false), NONE);
        due("17: acts", x.now(3), 2);
        due("17: no M", new ModuleRows().clear(0, false), NONE);
    }

    private static void join() {
        ModuleRows x = Check.told(TWELVE);
        due("18: JOINED", x.join(0, 1, false, 2), 24);
        due("18: its FORM", x.form(2, 0), 10300);
        due("18: MET", x.join(0, 1, true, 3), 2);
        due("18: its row", x.form(3, 0), 60600);
        due("18: s stays", x.many(0), 12);
        due("18: to itself", x.join(1, 0, false, 1), 24);
        due("18: MET with itself", x.join(0, 0, true, 0), 12);
        due("18: s 4", x.join(4, 0, true, 0), NONE);
        due("18: t -1", x.join(0, -1, true, 0), NONE);
        due("18: to 4", x.join(0, 0, false, 4), NONE);
        due("18: acts", x.now(3), 4);
        due("18: no M", new ModuleRows().join(0, 0, false, 0), NONE);
        // of the rows 4 1, 8 2, .. and 0 2 the common ones are 0 6 alone, and 0
        ModuleRows y = Check.told("modulo 12 2;module;row 4 1;module;row 0 2;");
        due("18: MET behind a 0", y.join(0, 1, true, 0), 2);
        due("18: it has", y.form(0, 1), 600);
    }

    private static void upright() {
        ModuleRows x = Check.told(TWELVE);
        due("19: upright(1)", x.upright(1, 2), 36);
        due("19: its FORM", x.form(2, 0), 10300);
        due("19: and", x.form(2, 1), 400);
        due("19: on that", x.upright(2, 2), 4);
        due("19: is the first again", x.lies(2, 1), 0);
        due("19: on the ROW 0", x.upright(3, 3), 144);
        due("19: on all", x.upright(3, 3), 1);
        due("19: s 4", x.upright(4, 0), NONE);
        due("19: to -1", x.upright(0, -1), NONE);
        due("19: acts", x.now(3), 4);
        due("19: no M", new ModuleRows().upright(0, 0), NONE);
    }

    private static void times() {
        ModuleRows x = Check.told(TWELVE);
        due("20: TIMES 2", x.times(0, 2, false, 2), 3);
        due("20: its FORM", x.form(2, 0), 40000);
        due("20: BY 2", x.times(1, 2, true, 2), 8);
        due("20: its FORM 0", x.form(2, 0), 30300);
        due("20: its FORM 1", x.form(2, 1), 600);
        due("20: TIMES 0", x.times(0, 0, false, 3), 1);
        due("20: BY 0", x.times(0, 0, true, 3), 144);
        due("20: TIMES 11", x.times(1, 11, false, 3), 4);
        due("20: is it", x.lies(1, 3), 0);
        due("20: u 12", x.times(0, 12, true, 2), NONE);
        due("20: u 12 of TIMES", x.times(0, 12, false, 2), NONE);
        due("20: u -1", x.times(0, -1, true, 2), NONE);
        due("20: u -1 of TIMES", x.times(0, -1, false, 2), NONE);
        due("20: s 4", x.times(4, 1, true, 2), NONE);
        due("20: to -1", x.times(0, 1, false, -1), NONE);
        due("20: acts", x.now(3), 5);
        due("20: no M", new ModuleRows().times(0, 0, true, 0), NONE);
    }

    private static void equate() {
        ModuleRows x = Check.told("modulo 12 2;");
        due("21: not behind all", x.equate(1, 1, 1, 0, 1), NONE);
        due("21: the first", x.equate(0, 2, 3, 0, 1), 1);
        due("21: anew", x.equate(0, 3, 4, 0, 5), 1);
        due("21: is told", x.equation(0, 1), 4);
        due("21: its right side", x.equation(0, 3), 5);
        due("21: the second", x.equate(1, 0, 0, 0, 0), 2);
        due("21: the third", x.equate(2, 11, 11, 0, 11), 3);
        due("21: a fourth", x.equate(3, 0, 0, 0, 0), NONE);
        due("21: the third anew", x.equate(2, 1, 11, 0, 11), 3);
        due("21: i -1", x.equate(-1, 0, 0, 0, 0), NONE);
        due("21: i most", x.equate(MOST, 0, 0, 0, 0), NONE);
        due("21: beyond WIDTH", x.equate(0, 0, 0, 1, 0), NONE);
        due("21: left 12", x.equate(0, 12, 0, 0, 0), NONE);
        due("21: left -1", x.equate(0, 0, -1, 0, 0), NONE);
        due("21: right 12", x.equate(0, 0, 0, 0, 12), NONE);
        due("21: right -1", x.equate(0, 0, 0, 0, -1), NONE);
        due("21: all stays", x.equation(0, 0), 3);
        due("21: acts", x.now(3), 5);
        due("21: no M", new ModuleRows().equate(0, 0, 0, 0, 0), NONE);
    }

    private static void drop() {
        ModuleRows x = Check.told("modulo 12 1;equation 1 is 2;equation 3 is 4;equation 5 is 6;");
        due("22: i 3", x.drop(3), NONE);
        due("22: i -1", x.drop(-1), NONE);
        due("22: the second", x.drop(1), 2);
        due("22: the third is the second", x.equation(1, 0), 5);
        due("22: with its right side", x.equation(1, 3), 6);
        due("22: the first stays", x.equation(0, 3), 2);
        due("22: the first", x.drop(0), 1);
        due("22: the last", x.drop(0), 0);
        due("22: none", x.drop(0), NONE);
        due("22: acts", x.now(3), 3);
        due("22: no M", new ModuleRows().drop(0), NONE);
    }

    private static void equation() {
        ModuleRows x = Check.told("modulo 12 1;equation 7 is 2;");
        due("23: 0", x.equation(0, 0), 7);
        due("23: beyond WIDTH", x.equation(0, 1), 0);
        due("23: too", x.equation(0, 2), 0);
        due("23: right", x.equation(0, 3), 2);
        due("23: what 4", x.equation(0, 4), NONE);
        due("23: what -1", x.equation(0, -1), NONE);
        due("23: i 1", x.equation(1, 0), NONE);
        due("23: i -1", x.equation(-1, 0), NONE);
        due("23: most", x.equation(MOST, MOST), NONE);
        due("23: no M", new ModuleRows().equation(0, 0), NONE);
    }

    private static void solutions() {
        due("24: no M", new ModuleRows().solutions(), NONE);
        due("24: without EQUATIONS", Check.told("modulo 30 3;").solutions(), 27000);
        ModuleRows x = Check.told("modulo 12 2;equation 4 6 is 2;");
        // 2 x0 and 3 x1 is 1 modulo 6: x1 odd, x0 is 2 or 5: 6 times 4
        due("24: 4 6 is 2", x.solutions(), 24);
        x.equate(1, 0, 1, 0, 4);
        due("24: x1 is 4", x.solutions(), 0);
        x.equate(1, 0, 1, 0, 3);
        due("24: x1 is 3", x.solutions(), 4);
        due("24: no act", x.now(3), 2);
        due("24: 0 is 1", Check.told("modulo 2 1;equation 0 is 1;").solutions(), 0);
        due("24: 0 is 0", Check.told("modulo 2 1;equation 0 is 0;").solutions(), 2);
    }

    private static void solution() {
        due("25: no M", new ModuleRows().solution(), NONE);
        due("25: without EQUATIONS", Check.told("modulo 30 3;").solution(), 0);
        ModuleRows x = Check.told("modulo 12 2;equation 4 6 is 2;");
        due("25: 4 6 is 2", x.solution(), 20100);
        x.equate(1, 0, 1, 0, 4);
        due("25: none", x.solution(), NONE);
        x.equate(1, 1, 1, 0, 0);
        due("25: 5 and 7", x.solution(), 50700);
        due("25: of WIDTH 1", Check.told("modulo 30 1;equation 7 is 1;").solution(), 130000);
        due("25: of WIDTH 3", Check.told("modulo 30 3;equation 1 0 0 is 29;equation 0 7 0 is 1;equation 0 0 2 is 28;")
            .solution(), 291314);
    }

    private static void witness() {
        due("26: no M", new ModuleRows().witness(), NONE);
        due("26: without EQUATIONS", Check.told("modulo 30 3;").witness(), NONE);
        due("26: not HOPELESS", Check.told("modulo 12 1;equation 4 is 8;").witness(), NONE);
        // 3 times 4 is 0, 3 times 1 is not
        due("26: 4 is 1", Check.told("modulo 12 1;equation 4 is 1;").witness(), 30000);
        due("26: 0 is 5", Check.told("modulo 12 1;equation 0 is 5;").witness(), 10000);
        due("26: 4 is 2", Check.told("modulo 12 1;equation 4 is 2;").witness(), 30000);
        // 6 times 6 is 0 modulo 12, 2 times too; but 2 times 6 is 0, 2 times 3 is not
        due("26: 6 is 3", Check.told("modulo 12 1;equation 6 is 3;").witness(), 20000);
        due("26: the last that shows it", Check.told("modulo 12 1;equation 4 is 1;equation 4 is 1;").witness(), 300);
        due("26: of two together", Check.told("modulo 5 2;equation 1 2 is 3;equation 1 2 is 4;").witness(), 10400);
        due("26: of three", Check.told("modulo 5 2;equation 1 0 is 1;equation 0 1 is 1;equation 1 1 is 1;").witness(),
            10104);
    }

    private static void kernel() {
        ModuleRows x = Check.told("modulo 12 2;equation 4 6 is 2;");
        due("27: kernel(1)", x.kernel(1), 24);
        due("27: has 3 0", x.form(1, 0), 30000);
        due("27: and 0 2", x.form(1, 1), 200);
        x.drop(0);
        due("27: without EQUATIONS", x.kernel(0), 144);
        due("27: 1 stays", x.many(1), 24);
        due("27: place 4", x.kernel(4), NONE);
        due("27: place -1", x.kernel(-1), NONE);
        due("27: acts", x.now(3), 3);
        due("27: no M", new ModuleRows().kernel(0), NONE);
        ModuleRows y = Check.told("modulo 12 1;equation 0 is 1;");
        due("27: of HOPELESS ones", y.kernel(0), 12);
    }

    private static void sides() {
        ModuleRows x = Check.told("modulo 12 2;module;row 4 7;module;row 0 8;equation 1 1 is 1;equation 2 1 is 1;"
            + "equation 3 1 is 1;");
        due("28: two", x.sides(0), 2);
        due("28: how many", x.now(2), 2);
        due("28: the first column's", x.equation(0, 0), 4);
        due("28: reduced", x.equation(0, 1), 1);
        due("28: the second column's", x.equation(1, 1), 3);
        due("28: right side", x.equation(0, 3), 0);
        due("28: right side of the second", x.equation(1, 3), 0);
        due("28: one", x.sides(1), 1);
        due("28: 4", x.equation(0, 1), 4);
        due("28: its 0", x.equation(0, 0), 0);
        due("28: none", x.sides(2), 0);
        due("28: no EQUATIONS", x.now(2), 0);
        due("28: place 4", x.sides(4), NONE);
        due("28: place -1", x.sides(-1), NONE);
        due("28: acts", x.now(3), 3);
        due("28: no M", new ModuleRows().sides(0), NONE);
        ModuleRows y = Check.told("modulo 12 3;equation 1 2 3 is 4;module;row 0 0 5;");
        y.sides(0);
        due("28: nothing of the old left side", y.equation(0, 1), 0);
        due("28: the new one", y.equation(0, 2), 1);
    }

    private static void drawn() {
        ModuleRows x = Check.told("modulo 30 3;");
        due("29: n 0", x.drawn(0, 1), NONE);
        due("29: n 61", x.drawn(61, 1), NONE);
        due("29: n -1", x.drawn(-1, 1), NONE);
        due("29: n least", x.drawn(LEAST, 1), NONE);
        due("29: no acts", x.now(3), 0);
        due("29: n 1 without M", new ModuleRows().drawn(1, 7), 0);
        ModuleRows none = new ModuleRows();
        due("29: n 60 without M", none.drawn(60, 7), 0);
        due("29: n 61 without M", none.drawn(61, 7), NONE);
        due("29: no act without M", none.now(3), 0);
        due("29: n 1", x.drawn(1, 0), drawnOne());
        due("29: n 60", x.drawn(60, -5), 108000);
        due("29: acts", x.now(3), 2);
    }

    /** One DEED by the seed 0, drawn by hand: place and ROW, and what the SIZES are then. */
    private static int drawnOne() {
        int s = 12345;
        int place = (s >>> 8) % 4;
        int[] row = new int[3];
        for (int j = 0; j < 3; j++) {
            s = s * 1103515245 + 12345;
            row[j] = (s >>> 8) % 30;
        }
        return 3 + Check.told("modulo 30 3;").come(place, row[0], row[1], row[2]);
    }

    private static void undo() {
        ModuleRows x = Check.told("modulo 12 1;");
        due("30: none", x.undo(), NONE);
        for (int i = 1; i <= 11; i++) {
            x.come(i % 4, 12 - i, 0, 0);
        }
        due("30: 8 are kept", x.now(3), 8);
        for (int left = 7; left >= 0; left--) {
            due("30: left", x.undo(), left);
        }
        due("30: none more", x.undo(), NONE);
        due("30: the third came", x.many(3), 4);
        due("30: the first came", x.many(1), 12);
        due("30: the fourth is undone", x.many(0), 1);
        x.come(0, 6, 0, 0);
        due("30: again", x.now(3), 1);
        due("30: what is NONE is no act", x.come(0, 12, 0, 0), NONE);
        x.many(0);
        due("30: undone", x.undo(), 0);
        due("30: as before", x.many(0), 1);
        due("30: no M", new ModuleRows().undo(), NONE);
    }

    private static void undoEachAct() {
        ModuleRows x = Check.told("modulo 12 2;module;row 2 0;row 0 6;module;row 3 3;equation 1 2 is 3;");
        for (int act = 0; act < 12; act++) {
            String before = Seen.told(x);
            doAct(x, act);
            boolean changed = !before.equals(Seen.told(x));
            due("30: act " + act + " changes something", changed, true);
            due("30: act " + act + " can be undone", x.undo(), 0);
            due("30: act " + act + " is undone", before.equals(Seen.told(x)), true);
        }
    }

    private static void doAct(ModuleRows x, int act) {
        switch (act) {
            case 0: x.come(2, 1, 1, 0); break;
            case 1: x.clear(0, false); break;
            case 2: x.clear(0, true); break;
            case 3: x.join(0, 1, false, 3); break;
            case 4: x.join(0, 1, true, 0); break;
            case 5: x.upright(1, 1); break;
            case 6: x.times(0, 2, false, 0); break;
            case 7: x.equate(1, 5, 6, 0, 7); break;
            case 8: x.drop(0); break;
            case 9: x.kernel(1); break;
            case 10: x.sides(0); break;
            default: x.drawn(5, 3); break;
        }
    }

    private static void image() {
        ModuleRows x = Check.told("modulo 12 2;module;row 2 0;equation 1 2 is 3;");
        due("31: place 2", x.image(2), false);
        due("31: place -1", x.image(-1), false);
        due("31: least", x.image(LEAST), false);
        due("31: nothing was kept", x.restore(0), false);
        x.come(1, 1, 1, 0);
        String first = Seen.told(x);
        due("31: place 0", x.image(0), true);
        due("31: no act", x.now(3), 1);
        x.drop(0);
        String second = Seen.told(x);
        due("31: place 1", x.image(1), true);
        x.clear(0, true);
        x.restore(0);
        due("31: the first", first.equals(Seen.told(x)), true);
        x.restore(1);
        due("31: the second", second.equals(Seen.told(x)), true);
        x.clear(0, true);
        String third = Seen.told(x);
        x.image(1);
        x.clear(0, false);
        x.restore(1);
        due("31: kept anew", third.equals(Seen.told(x)), true);
    }

    private static void restore() {
        ModuleRows x = Check.told("modulo 12 2;module;row 2 0;equation 1 2 is 3;");
        due("32: place 2", x.restore(2), false);
        due("32: place -1", x.restore(-1), false);
        due("32: nothing kept", x.restore(1), false);
        x.come(0, 3, 0, 0);
        due("32: acts stay where it is false", x.restore(0), false);
        due("32: so", x.now(3), 1);
        String kept = Seen.told(x);
        x.image(0);
        Check.read(x, "modulo 5 1;module;row 1;");
        Check.read(x, "modulo 99 1;");
        x.come(1, 1, 0, 0);
        x.feed(0, 0, 0, 0, 0);
        due("32: true", x.restore(0), true);
        due("32: as kept", kept.equals(Seen.told(x)), true);
        due("32: the tape stays", x.now(4), 20);
        due("32: fault() stays", x.fault(), 2);
        due("32: nothing can be undone", x.now(3), 0);
        due("32: undo()", x.undo(), NONE);
        x.clear(0, true);
        due("32: twice", x.restore(0), true);
        due("32: the image is its own", kept.equals(Seen.told(x)), true);
        ModuleRows none = new ModuleRows();
        none.image(1);
        Check.read(none, "modulo 5 1;");
        due("32: no M is kept too", none.restore(1), true);
        due("32: so M is 0", none.now(0), 0);
        due("32: and WIDTH", none.now(1), 0);
    }
}
