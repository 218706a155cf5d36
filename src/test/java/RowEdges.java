/** Edges of ROWS and of what is asked of MODULES: promises 7 to 15. */
final class RowEdges {
    private static final int NONE = ModuleRows.NONE;

    private final Edges edges;

    RowEdges(Edges edges) {
        this.edges = edges;
    }

    void run() {
        numbersOfARow();
        orderOfRows();
        toldBack();
        madeByNone();
        places();
        lead();
        form();
        many();
        row();
        rowThrows();
        eachRow();
        rank();
        beside();
        few();
        nought();
        lies();
    }

    private static ModuleRows plain(int m, int width) {
        return Check.told("modulo " + m + " " + width + ";");
    }

    private static int power(int m, int width) {
        return width == 0 ? 1 : m * power(m, width - 1);
    }

    private static int told(int[] row) {
        return 10000 * row[0] + 100 * row[1] + row[2];
    }

    // ---- terms

    /** For each M and WIDTH: in each column the least and the largest number, and those just beyond. */
    private void numbersOfARow() {
        edges.says("All is reckoned modulo M. A ROW has WIDTH numbers, 0 to M less 1;");
        for (int m = 2; m <= 30; m++) {
            for (int width = 1; width <= 3; width++) {
                for (int column = 0; column < 3; column++) {
                    int most = column < width ? m - 1 : 0;
                    oneNumber(m, width, column, 0, true);
                    oneNumber(m, width, column, most, true);
                    oneNumber(m, width, column, most + 1, false);
                    for (int wild : Edges.WILD) {
                        oneNumber(m, width, column, wild, false);
                    }
                }
            }
        }
    }

    /** Each call that takes a ROW, with one number of it. */
    private void oneNumber(int m, int width, int column, int number, boolean taken) {
        ModuleRows x = plain(m, width);
        x.clear(0, true);
        int[] row = new int[3];
        row[column] = number;
        String of = " of " + number + " in column " + column + " of " + width + " modulo " + m;
        int rank = column < width ? number * power(m, width - 1 - column) : 0;
        edges.due("beside" + of, x.beside(1, row[0], row[1], row[2]), taken ? told(row) : NONE);
        edges.due("rank" + of, x.rank(0, row[0], row[1], row[2]), taken ? rank : NONE);
        edges.due("come" + of, x.come(0, row[0], row[1], row[2]), taken ? power(m, width) : NONE);
        edges.due("equate" + of, x.equate(0, row[0], row[1], row[2], 0), taken ? 1 : NONE);
        edges.due("acts" + of, x.now(3), taken ? 3 : 1);
    }

    private void orderOfRows() {
        edges.says("ROWS in order: column by column the least.");
        ModuleRows x = plain(3, 3);
        x.clear(0, true);
        for (int rank = 0; rank < 27; rank++) {
            int[] row = {rank / 9, rank / 3 % 3, rank % 3};
            edges.due("row " + rank, Check.rowOf(x, 0, rank), told(row));
            edges.due("rank of it", x.rank(0, row[0], row[1], row[2]), rank);
        }
    }

    private void toldBack() {
        edges.says("A ROW is told as a, b, c (those beyond WIDTH 0), and told back as 10000 a and 100 b and c.");
        int[] last = {290000, 292900, 292929};
        for (int width = 1; width <= 3; width++) {
            ModuleRows x = plain(30, width);
            x.clear(0, true);
            edges.due("the last ROW of WIDTH " + width, Check.rowOf(x, 0, power(30, width) - 1), last[width - 1]);
            edges.due("one more", Check.rowOf(x, 0, power(30, width)), Check.THROWN);
        }
    }

    private void madeByNone() {
        edges.says("A MODULE is a set of ROWS that has with two ROWS what they make together, with one all its multiples; "
            + "MADE by some ROWS: the least MODULE that has these (by none: that of the ROW 0 alone).");
        ModuleRows x = Check.told("modulo 6 2;module;module;row 0 0;module;row 2 3;module;row 2 0;row 0 3;");
        edges.due("by none", x.many(0), 1);
        edges.due("its ROW", Check.rowOf(x, 0, 0), 0);
        edges.due("by the ROW 0", x.many(1), 1);
        // 2 3, 4 0, 0 3, 2 0, 4 3, 0 0: the multiples wrap around into all six
        edges.due("by one", x.many(2), 6);
        edges.due("by its multiples 2 0 and 0 3", x.lies(2, 3), 0);
    }

    private void places() {
        edges.says("MODULES are in places 0 to 3 (at first that of the ROW 0 alone).");
        ModuleRows x = plain(30, 3);
        for (int place = 0; place < 4; place++) {
            edges.due("many(" + place + ") at first", x.many(place), 1);
            edges.due("row(" + place + ", 0) at first", Check.rowOf(x, place, 0), 0);
            edges.due("row(" + place + ", 1) at first", Check.rowOf(x, place, 1), Check.THROWN);
        }
        for (int place : Edges.NO_PLACES) {
            edges.due("many(" + place + ")", x.many(place), NONE);
        }
    }

    // ---- promises 7 to 15

    private void lead() {
        edges.says("LEAD: what stands in column j of that (0: none).");
        ModuleRows x = Check.told("modulo 12 3;module;row 0 8 1;");
        // of 0 8 1, 0 4 2, 0 0 3, .. the first ROWS are 0 4 2 and 0 0 3
        edges.due("no ROW with column 0", x.lead(0, 0), 0);
        edges.due("column 1", x.lead(0, 1), 4);
        edges.due("column 2", x.lead(0, 2), 3);
        edges.says("LEAD of a MODULE in a column; NONE: no such ones.");
        for (int width = 1; width <= 3; width++) {
            ModuleRows y = plain(30, width);
            for (int column = 0; column < width; column++) {
                edges.due("of the ROW 0 alone", y.lead(3, column), 0);
            }
            edges.due("column " + width + " of WIDTH " + width, y.lead(3, width), NONE);
        }
        for (int place : Edges.NO_PLACES) {
            edges.refused("lead(" + place + ", 0)", y -> y.lead(place, 0), NONE);
        }
        for (int column : new int[] {-1, 2, 3, Edges.LEAST, Edges.MOST}) {
            edges.refused("lead(0, " + column + ")", y -> y.lead(0, column), NONE);
        }
        edges.refusedWithoutM("lead(0, 0)", y -> y.lead(0, 0), NONE);
    }

    private void form() {
        edges.says("FORM of a MODULE: for column j (from 0): of its ROWS that are 0 ahead of column j and not 0 in it the "
            + "first one; there need not be any.");
        ModuleRows x = Check.told("modulo 12 3;module;row 0 8 1;");
        edges.due("none for column 0", x.form(0, 0), NONE);
        edges.due("column 1", x.form(0, 1), 402);
        edges.due("column 2", x.form(0, 2), 3);
        edges.says("FORM: the ROW of a column, told back. NONE: there is none, no such ones.");
        for (int width = 1; width <= 3; width++) {
            ModuleRows y = plain(30, width);
            y.clear(0, true);
            for (int column = 0; column < width; column++) {
                edges.due("of the ROW 0 alone", y.form(3, column), NONE);
                edges.due("of all", y.form(0, column), column == 0 ? 10000 : column == 1 ? 100 : 1);
            }
            edges.due("column " + width + " of WIDTH " + width, y.form(0, width), NONE);
        }
        for (int place : Edges.NO_PLACES) {
            edges.refused("form(" + place + ", 0)", y -> y.form(place, 0), NONE);
        }
        for (int column : new int[] {-1, 2, 3, Edges.LEAST, Edges.MOST}) {
            edges.refused("form(0, " + column + ")", y -> y.form(0, column), NONE);
        }
        edges.refusedWithoutM("form(0, 0)", y -> y.form(0, 0), NONE);
    }

    private void many() {
        edges.says("SIZE: how many ROWS it has.");
        for (int m = 2; m <= 30; m++) {
            for (int width = 1; width <= 3; width++) {
                ModuleRows x = plain(m, width);
                edges.due("the ROW 0 alone modulo " + m, x.many(1), 1);
                x.clear(1, true);
                edges.due("all of WIDTH " + width + " modulo " + m, x.many(1), power(m, width));
            }
        }
        edges.says("SIZE; NONE: no such MODULE, no M.");
        for (int place : Edges.NO_PLACES) {
            edges.refused("many(" + place + ")", y -> y.many(place), NONE);
        }
        edges.refusedWithoutM("many(0)", y -> y.many(0), NONE);
        edges.refusedWithoutM("many(3)", y -> y.many(3), NONE);
    }

    private void row() {
        edges.says("The ROW of a MODULE with a rank (from 0), told back. NoSuchElementException: none such.");
        for (int m = 2; m <= 30; m++) {
            ModuleRows x = Check.told("modulo " + m + " 3;module;row 1 0 1;");
            edges.due("the first modulo " + m, Check.rowOf(x, 0, 0), 0);
            edges.due("the last modulo " + m, Check.rowOf(x, 0, m - 1), 10001 * (m - 1));
            edges.due("one behind modulo " + m, Check.rowOf(x, 0, m), Check.THROWN);
            edges.due("one ahead modulo " + m, Check.rowOf(x, 0, -1), Check.THROWN);
        }
        for (int place : Edges.NO_PLACES) {
            edges.refused("row(" + place + ", 0)", y -> Check.rowOf(y, place, 0), Check.THROWN);
        }
        edges.refusedWithoutM("row(0, 0)", y -> Check.rowOf(y, 0, 0), Check.THROWN);
    }

    private void rowThrows() {
        edges.says("A call that throws changes nothing.");
        for (int rank : new int[] {-1, 12, 13, 144, Edges.LEAST, Edges.MOST}) {
            edges.refused("row(0, " + rank + ")", y -> Check.rowOf(y, 0, rank), Check.THROWN);
        }
    }

    /** MODULES by all that some ROWS make together: each ROW by its rank, and of these the FORM. */
    private void eachRow() {
        edges.says("FORM: the ROW of a column, told back.");
        int[][][] makers = {
            {{1, 5, 7}, {0, 6, 4}, {0, 0, 3}}, {{5, 11, 11}, {0, 0, 4}, {0, 0, 0}}, {{4, 7, 2}, {0, 8, 9}, {6, 6, 6}},
            {{0, 10, 7}, {0, 3, 3}, {0, 0, 0}}, {{11, 11, 11}, {3, 1, 2}, {0, 0, 0}}, {{2, 3, 1}, {0, 0, 0}, {0, 0, 0}}
        };
        for (int[][] three : makers) {
            ModuleRows x = plain(12, 3);
            for (int[] row : three) {
                x.come(0, row[0], row[1], row[2]);
            }
            boolean[] in = madeBy(three);
            int[] first = {NONE, NONE, NONE};
            int rank = 0;
            // not every one of a large MODULE: an object has 512 calls
            int step = 1 + x.many(0) / 150;
            for (int number = 0; number < in.length; number++) {
                if (in[number]) {
                    int[] row = {number / 144, number / 12 % 12, number % 12};
                    noteFirst(first, row);
                    if (rank % step == 0) {
                        oneRow(x, row, rank);
                    }
                    rank++;
                }
            }
            edges.due("many", x.many(0), rank);
            for (int column = 0; column < 3; column++) {
                edges.due("FORM of column " + column, x.form(0, column), first[column]);
            }
        }
    }

    private static void noteFirst(int[] first, int[] row) {
        int column = row[0] != 0 ? 0 : row[1] != 0 ? 1 : 2;
        if (row[column] != 0 && first[column] == NONE) {
            first[column] = told(row);
        }
    }

    private void oneRow(ModuleRows x, int[] row, int rank) {
        // a call that leaves another ROW behind, so that none of it is taken for this one's
        x.beside(1, 11, 11, 11);
        edges.due("row " + rank, Check.rowOf(x, 0, rank), told(row));
        edges.due("rank of " + told(row), x.rank(0, row[0], row[1], row[2]), rank);
    }

    private static boolean[] madeBy(int[][] three) {
        boolean[] in = new boolean[12 * 12 * 12];
        for (int multiples = 0; multiples < in.length; multiples++) {
            int number = 0;
            for (int column = 0; column < 3; column++) {
                int sum = multiples / 144 * three[0][column] + multiples / 12 % 12 * three[1][column]
                    + multiples % 12 * three[2][column];
                number = 12 * number + sum % 12;
            }
            in[number] = true;
        }
        return in;
    }

    private void rank() {
        edges.says("How many ROWS of a MODULE are ahead of one that is in it; NONE: it is not, no such MODULE, ROW.");
        ModuleRows x = Check.told("modulo 12 2;module;row 2 0;row 0 6;");
        edges.due("the first", x.rank(0, 0, 0, 0), 0);
        edges.due("the second", x.rank(0, 0, 6, 0), 1);
        edges.due("the last", x.rank(0, 10, 6, 0), 11);
        for (int b = 0; b < 12; b++) {
            edges.due("0 " + b, x.rank(0, 0, b, 0), b % 6 == 0 ? b / 6 : NONE);
            edges.due(b + " 0", x.rank(0, b, 0, 0), b % 2 == 0 ? b : NONE);
            edges.due("of the ROW 0 alone", x.rank(1, 0, b, 0), b == 0 ? 0 : NONE);
        }
        for (int place : Edges.NO_PLACES) {
            edges.refused("rank(" + place + ", 0, 0, 0)", y -> y.rank(place, 0, 0, 0), NONE);
        }
        for (int wild : Edges.WILD) {
            edges.refused("rank(0, " + wild + ", 0, 0)", y -> y.rank(0, wild, 0, 0), NONE);
            edges.refused("rank(0, 0, " + wild + ", 0)", y -> y.rank(0, 0, wild, 0), NONE);
            edges.refused("rank(0, 0, 0, " + wild + ")", y -> y.rank(0, 0, 0, wild), NONE);
        }
        // alike modulo 12 to ROWS that are in it
        edges.refused("rank(0, 12, 0, 0)", y -> y.rank(0, 12, 0, 0), NONE);
        edges.refused("rank(0, -2, 0, 0)", y -> y.rank(0, -2, 0, 0), NONE);
        edges.refused("rank(0, 0, 0, 12)", y -> y.rank(0, 0, 0, 12), NONE);
        edges.refusedWithoutM("rank(0, 0, 0, 0)", y -> y.rank(0, 0, 0, 0), NONE);
    }

    private void beside() {
        edges.says("BESIDE a ROW: the first of all ROWS that it makes together with one of the MODULE.");
        ModuleRows x = Check.told("modulo 12 2;module;row 2 0;row 0 6;module;row 1 5;");
        x.clear(3, true);
        for (int a = 0; a < 12; a++) {
            edges.due("the row " + a + " 11", x.beside(0, a, 11, 0), 10000 * (a % 2) + 500);
            edges.due("of all", x.beside(3, a, 11, 0), 0);
            edges.due("of the ROW 0 alone", x.beside(2, a, 11, 0), 10000 * a + 1100);
            // less a times 1 5
            edges.due("wrapping around", x.beside(1, a, 0, 0), 100 * Math.floorMod(-5 * a, 12));
        }
        edges.says("BESIDE a ROW, told back; NONE: no such ones.");
        for (int place : Edges.NO_PLACES) {
            edges.refused("beside(" + place + ", 0, 0, 0)", y -> y.beside(place, 0, 0, 0), NONE);
        }
        for (int wild : Edges.WILD) {
            edges.refused("beside(0, " + wild + ", 0, 0)", y -> y.beside(0, wild, 0, 0), NONE);
            edges.refused("beside(0, 0, " + wild + ", 0)", y -> y.beside(0, 0, wild, 0), NONE);
            edges.refused("beside(0, 0, 0, " + wild + ")", y -> y.beside(0, 0, 0, wild), NONE);
        }
        edges.refusedWithoutM("beside(0, 0, 0, 0)", y -> y.beside(0, 0, 0, 0), NONE);
    }

    private void few() {
        edges.says("FEW: how many ROWS make it at the fewest.");
        for (int m = 2; m <= 30; m++) {
            for (int width = 1; width <= 3; width++) {
                ModuleRows x = plain(m, width);
                edges.due("the ROW 0 alone modulo " + m, x.few(0), 0);
                x.clear(0, true);
                edges.due("all of WIDTH " + width + " modulo " + m, x.few(0), width);
            }
        }
        // 15, 10 and 6 modulo 30 have nothing in common: 15 10 6 makes them all
        ModuleRows x = Check.told("modulo 30 3;module;row 15 0 0;row 0 10 0;row 0 0 6;");
        edges.due("three columns by one ROW", x.few(0), 1);
        edges.due("one more", x.come(0, 0, 15, 0), 60);
        edges.due("two of them share 15", x.few(0), 2);
        // a square in M: 2 0 and 0 4 modulo 8 are two, though their SIZES differ
        edges.due("modulo 8", Check.told("modulo 8 2;module;row 2 0;row 0 4;").few(0), 2);
        edges.says("FEW; NONE: no such MODULE, no M.");
        for (int place : Edges.NO_PLACES) {
            edges.refused("few(" + place + ")", y -> y.few(place), NONE);
        }
        edges.refusedWithoutM("few(0)", y -> y.few(0), NONE);
    }

    private void nought() {
        edges.says("NOUGHT: the least u (1 to M) by which it is made the ROW 0 alone.");
        for (int m = 2; m <= 30; m++) {
            for (int width = 1; width <= 3; width++) {
                ModuleRows x = plain(m, width);
                edges.due("the ROW 0 alone modulo " + m, x.nought(0), 1);
                x.clear(0, true);
                edges.due("all of WIDTH " + width + " modulo " + m, x.nought(0), m);
            }
            edges.due("by the last column modulo " + m, Check.told("modulo " + m + " 3;module;row 0 0 1;").nought(0), m);
        }
        edges.due("2 and 3 together", Check.told("modulo 30 2;module;row 15 0;row 0 10;").nought(0), 6);
        edges.says("NOUGHT; NONE likewise.");
        for (int place : Edges.NO_PLACES) {
            edges.refused("nought(" + place + ")", y -> y.nought(place), NONE);
        }
        edges.refusedWithoutM("nought(0)", y -> y.nought(0), NONE);
    }

    private void lies() {
        edges.says("LIES of s to t: 0 alike, 1 all of s in t (and not alike), 2 all of t in s, 3 neither.");
        ModuleRows x = Check.told("modulo 12 2;module;row 2 0;row 0 6;module;row 3 3;");
        x.clear(3, true);
        // place 2 has the ROW 0 alone, place 3 all ROWS
        int[][] due = {{0, 3, 2, 1}, {3, 0, 2, 1}, {1, 1, 0, 1}, {2, 2, 2, 0}};
        for (int s = 0; s < 4; s++) {
            for (int t = 0; t < 4; t++) {
                edges.due("lies(" + s + ", " + t + ")", x.lies(s, t), due[s][t]);
            }
        }
        ModuleRows y = Check.told("modulo 12 2;module;row 4 7;module;row 4 1;row 0 3;");
        edges.due("alike, though made by other ROWS", y.lies(0, 1), 0);
        edges.due("alike, both the ROW 0 alone", y.lies(2, 3), 0);
        edges.says("LIES; NONE likewise (of either).");
        for (int place : Edges.NO_PLACES) {
            edges.refused("lies(" + place + ", 0)", z -> z.lies(place, 0), NONE);
            edges.refused("lies(0, " + place + ")", z -> z.lies(0, place), NONE);
            edges.refused("lies(" + place + ", " + place + ")", z -> z.lies(place, place), NONE);
        }
        edges.refusedWithoutM("lies(0, 0)", z -> z.lies(0, 0), NONE);
    }
}
