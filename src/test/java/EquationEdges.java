/** Edges of EQUATIONS: promises 21 to 28. */
final class EquationEdges {
    private static final int NONE = ModuleRows.NONE;

    private final Edges edges;

    EquationEdges(Edges edges) {
        this.edges = edges;
    }

    void run() {
        sidesOfAnEquation();
        equate();
        equateRefused();
        drop();
        dropped();
        equation();
        solutionTerms();
        solutions();
        solution();
        witnessTerms();
        witness();
        kernel();
        sides();
        oneColumn();
    }

    private void sidesOfAnEquation() {
        edges.says("EQUATIONS (0 to 3): left side a x0 and b x1 and c x2, right side d.");
        ModuleRows x = Check.told("modulo 30 3;");
        for (int count = 0; count < 3; count++) {
            edges.due("how many at " + count, x.now(2), count);
            x.equate(count, 29 - count, count, 29, 28 - count);
        }
        edges.due("three", x.now(2), 3);
        edges.due("no fourth one", x.equate(3, 0, 0, 0, 0), NONE);
        edges.due("three still", x.now(2), 3);
        for (int i = 0; i < 3; i++) {
            int[] told = {29 - i, i, 29, 28 - i};
            for (int what = 0; what < 4; what++) {
                edges.due("number " + what + " of " + i, x.equation(i, what), told[what]);
            }
        }
        // 29 29 29 is 3 times -1 squared: 3
        edges.due("a left side that wraps around", alone("modulo 30 3;equation 29 29 29 is 3;", 29, 29, 29), true);
        edges.due("a left side that does not", alone("modulo 30 3;equation 29 29 29 is 2;", 29, 29, 29), false);
    }

    /** Whether a ROW is a SOLUTION: EQUATIONS that leave it alone are put behind. */
    private static boolean alone(String text, int a, int b, int c) {
        ModuleRows x = Check.told(text);
        x.equate(1, 1, 0, 0, a);
        x.equate(2, 0, 1, 0, b);
        x.upright(0, 0);
        x.kernel(1);
        int found = x.solution();
        return found == 10000 * a + 100 * b + c;
    }

    private void equate() {
        edges.says("An EQUATION comes behind all (i: how many there are), is told anew (i below that): how many there are;");
        ModuleRows x = Check.told("modulo 12 2;");
        edges.due("the first", x.equate(0, 1, 2, 0, 3), 1);
        edges.due("the first anew", x.equate(0, 4, 5, 0, 6), 1);
        edges.due("the second", x.equate(1, 7, 8, 0, 9), 2);
        edges.due("the second anew", x.equate(1, 10, 11, 0, 0), 2);
        edges.due("the third", x.equate(2, 1, 1, 0, 1), 3);
        edges.due("the third anew", x.equate(2, 0, 0, 0, 0), 3);
        edges.due("the first anew of three", x.equate(0, 0, 1, 0, 2), 3);
        int[] told = {0, 1, 0, 2, 10, 11, 0, 0, 0, 0, 0, 0};
        for (int k = 0; k < told.length; k++) {
            edges.due("number " + k, x.equation(k / 4, k % 4), told[k]);
        }
    }

    private void equateRefused() {
        edges.says("NONE: no such ones, numbers not as told, a fourth one.");
        edges.refused("i 3 of 2", y -> y.equate(3, 0, 0, 0, 0), NONE);
        for (int i : new int[] {-1, 4, 256, Edges.LEAST, Edges.MOST}) {
            edges.refused("equate(" + i + ", 0, 0, 0, 0)", y -> y.equate(i, 0, 0, 0, 0), NONE);
        }
        for (int wild : new int[] {-1, 12, 13, 256, Edges.LEAST, Edges.MOST}) {
            edges.refused("a " + wild, y -> y.equate(0, wild, 0, 0, 0), NONE);
            edges.refused("b " + wild, y -> y.equate(0, 0, wild, 0, 0), NONE);
            edges.refused("c " + wild, y -> y.equate(0, 0, 0, wild, 0), NONE);
            edges.refused("right " + wild, y -> y.equate(0, 0, 0, 0, wild), NONE);
            edges.refused("right " + wild + " of one behind all", y -> y.equate(2, 0, 0, 0, wild), NONE);
        }
        edges.refused("c 1 beyond WIDTH", y -> y.equate(2, 0, 0, 1, 0), NONE);
        edges.refusedWithoutM("equate(0, 0, 0, 0, 0)", y -> y.equate(0, 0, 0, 0, 0), NONE);
        ModuleRows x = Check.told("modulo 12 1;");
        edges.due("i 1 of none", x.equate(1, 0, 0, 0, 0), NONE);
        edges.due("b 1 of WIDTH 1", x.equate(0, 0, 1, 0, 0), NONE);
        edges.due("right 11", x.equate(0, 0, 0, 0, 11), 1);
        edges.due("i 2 of one", x.equate(2, 0, 0, 0, 0), NONE);
        x.equate(1, 1, 0, 0, 1);
        x.equate(2, 2, 0, 0, 2);
        edges.due("a fourth one", x.equate(3, 3, 0, 0, 3), NONE);
        edges.due("the third stays", x.equation(2, 0), 2);
        edges.due("acts", x.now(3), 3);
    }

    private void drop() {
        edges.says("An EQUATION goes (those behind it are one less): how many are left; NONE: none such.");
        int[][] left = {{2, 3}, {1, 3}, {1, 2}};
        for (int i = 0; i < 3; i++) {
            ModuleRows x = Check.told("modulo 12 1;equation 1 is 4;equation 2 is 5;equation 3 is 6;");
            edges.due("drop(" + i + ")", x.drop(i), 2);
            for (int k = 0; k < 2; k++) {
                edges.due("left side of " + k, x.equation(k, 0), left[i][k]);
                edges.due("right side of " + k, x.equation(k, 3), left[i][k] + 3);
            }
            edges.due("no third one", x.equation(2, 0), NONE);
            edges.due("nor to be dropped", x.drop(2), NONE);
            edges.due("the last but one", x.drop(1), 1);
            edges.due("the last", x.drop(0), 0);
            edges.due("none is left", x.drop(0), NONE);
            edges.due("acts", x.now(3), 3);
            edges.due("one may come again", x.equate(0, 7, 0, 0, 8), 1);
        }
        for (int i : new int[] {-1, 2, 3, 256, Edges.LEAST, Edges.MOST}) {
            edges.refused("drop(" + i + ")", y -> y.drop(i), NONE);
        }
        edges.refusedWithoutM("drop(0)", y -> y.drop(0), NONE);
    }

    /** What goes has no say any more: neither a dropped EQUATION nor those that sides() took the place of. */
    private void dropped() {
        edges.says("An EQUATION goes (those behind it are one less):");
        String[] lines = {"equation 4 6 is 2;", "equation 0 1 is 7;", "equation 6 9 is 3;"};
        for (int gone = 0; gone < 3; gone++) {
            ModuleRows x = Check.told("modulo 12 2;" + lines[0] + lines[1] + lines[2]);
            StringBuilder rest = new StringBuilder("modulo 12 2;");
            for (int i = 0; i < 3; i++) {
                rest.append(i == gone ? "" : lines[i]);
            }
            x.drop(gone);
            sameAnswers("without " + gone, x, Check.told(rest.toString()));
            x.drop(1);
            x.drop(0);
            sameAnswers("without any, last " + gone, x, Check.told("modulo 12 2;"));
        }
        ModuleRows x = Check.told("modulo 12 2;module;row 0 3;" + lines[0] + lines[1] + lines[2]);
        x.sides(0);
        sameAnswers("by sides(0)", x, Check.told("modulo 12 2;equation 0 3 is 0;"));
        x.sides(1);
        sameAnswers("by sides(1)", x, Check.told("modulo 12 2;"));
    }

    private void sameAnswers(String label, ModuleRows x, ModuleRows y) {
        edges.due("solutions " + label, x.solutions(), y.solutions());
        edges.due("solution " + label, x.solution(), y.solution());
        edges.due("witness " + label, x.witness(), y.witness());
        edges.due("kernel " + label, x.kernel(3), y.kernel(3));
        edges.due("its FORM " + label, x.form(3, 0), y.form(3, 0));
    }

    private void equation() {
        edges.says("A number of an EQUATION: 0, 1, 2 of its left side, 3 its right side. NONE: none such.");
        for (int width = 1; width <= 3; width++) {
            ModuleRows x = Check.told("modulo 12 " + width + ";");
            x.equate(0, 11, width > 1 ? 10 : 0, width > 2 ? 9 : 0, 8);
            edges.due("a", x.equation(0, 0), 11);
            edges.due("b of WIDTH " + width, x.equation(0, 1), width > 1 ? 10 : 0);
            edges.due("c of WIDTH " + width, x.equation(0, 2), width > 2 ? 9 : 0);
            edges.due("right", x.equation(0, 3), 8);
        }
        for (int what : new int[] {-1, 4, 5, 256, Edges.LEAST, Edges.MOST}) {
            edges.refused("equation(0, " + what + ")", y -> y.equation(0, what), NONE);
        }
        for (int i : new int[] {-1, 2, 3, 256, Edges.LEAST, Edges.MOST}) {
            edges.refused("equation(" + i + ", 0)", y -> y.equation(i, 0), NONE);
            edges.refused("equation(" + i + ", 3)", y -> y.equation(i, 3), NONE);
        }
        edges.refusedWithoutM("equation(0, 0)", y -> y.equation(0, 0), NONE);
    }

    private void solutionTerms() {
        edges.says("SOLUTIONS: ROWS x by which each left side is its right side (without EQUATIONS: all ROWS).");
        for (int m = 2; m <= 30; m++) {
            for (int width = 1; width <= 3; width++) {
                ModuleRows x = Check.told("modulo " + m + " " + width + ";");
                int all = width == 1 ? m : width == 2 ? m * m : m * m * m;
                edges.due("without EQUATIONS modulo " + m, x.solutions(), all);
                edges.due("the first of all", x.solution(), 0);
                edges.due("not HOPELESS", x.witness(), NONE);
                x.equate(0, 0, 0, 0, 0);
                edges.due("0 is 0", x.solutions(), all);
                x.equate(0, 0, 0, 0, m - 1);
                edges.due("0 is not 0", x.solutions(), 0);
                x.equate(0, m - 1, 0, 0, m - 1);
                edges.due("x0 is 1", x.solutions(), all / m);
                edges.due("the first of these", x.solution(), 10000);
                x.equate(1, 1, 0, 0, 0);
                edges.due("x0 is 1 and 0", x.solutions(), 0);
            }
        }
    }

    private void solutions() {
        edges.says("How many SOLUTIONS; NONE: no M.");
        edges.refusedWithoutM("solutions()", y -> y.solutions(), NONE);
        // x0 is 5, x1 is 5 or 11
        edges.refused("solutions() changes nothing", y -> y.solutions(), 2);
        edges.due("none", Check.told("modulo 30 2;equation 2 4 is 1;").solutions(), 0);
        edges.due("three that leave one", three().solutions(), 1);
    }

    /** As many EQUATIONS as there can be, with the last ROW of all as their only SOLUTION. */
    private static ModuleRows three() {
        return Check.told("modulo 30 3;equation 1 0 0 is 29;equation 0 1 0 is 29;equation 0 0 1 is 29;");
    }

    private void solution() {
        edges.says("The first SOLUTION, told back; NONE: none, no M.");
        edges.refusedWithoutM("solution()", y -> y.solution(), NONE);
        edges.refused("solution() changes nothing", y -> y.solution(), 50500);
        edges.due("the last ROW of all", three().solution(), 292929);
        edges.due("of two in column 0 the first", Check.told("modulo 30 1;equation 2 is 28;").solution(), 140000);
        // x0 0 leaves x1 1; x1 the least where x0 is the least
        edges.due("column by column", Check.told("modulo 30 2;equation 1 1 is 1;").solution(), 100);
        edges.due("the ROW 0", Check.told("modulo 30 2;equation 1 1 is 0;").solution(), 0);
        edges.due("none", Check.told("modulo 30 2;equation 2 4 is 1;").solution(), NONE);
    }

    private void witnessTerms() {
        edges.says("HOPELESS they are without a SOLUTION: then there are multiples u (as many as EQUATIONS) by which all "
            + "left sides together are 0 for each x, and the right sides together not:");
        // one EQUATION, whatever WIDTH is: one multiple
        edges.due("one of WIDTH 1", Check.told("modulo 12 1;equation 6 is 3;").witness(), 20000);
        edges.due("one of WIDTH 3", Check.told("modulo 12 3;equation 6 0 6 is 3;").witness(), 20000);
        edges.due("two of WIDTH 1", Check.told("modulo 12 1;equation 1 is 3;equation 1 is 2;").witness(), 11100);
        // the first two say the same, so u2 is not 0: 5 and 7 make 0
        edges.due("three of WIDTH 1", Check.told("modulo 12 1;equation 1 is 1;equation 5 is 5;equation 1 is 2;").witness(),
            107);
        edges.due("three of WIDTH 2", Check.told("modulo 12 2;equation 1 0 is 1;equation 0 1 is 1;equation 1 1 is 1;")
            .witness(), 10111);
        edges.due("0 is 11", Check.told("modulo 12 3;equation 0 0 0 is 11;").witness(), 10000);
        edges.due("the last of three alone", Check.told("modulo 12 3;equation 1 0 0 is 1;equation 0 1 0 is 1;"
            + "equation 0 0 0 is 1;").witness(), 1);
        edges.says("WITNESS: the first such u (column by column the least, told as a ROW).");
        edges.due("a multiple of the third is ahead", Check.told("modulo 12 1;equation 0 is 1;equation 0 is 1;"
            + "equation 2 is 1;").witness(), 6);
        edges.due("of the second", Check.told("modulo 12 1;equation 0 is 1;equation 6 is 1;equation 1 is 0;").witness(), 106);
        edges.due("1 and 29", Check.told("modulo 30 1;equation 1 is 1;equation 1 is 0;").witness(), 12900);
    }

    private void witness() {
        edges.says("WITNESS, told back; NONE: not HOPELESS, no M.");
        edges.refusedWithoutM("witness()", y -> y.witness(), NONE);
        edges.due("without EQUATIONS", Check.told("modulo 12 1;").witness(), NONE);
        edges.due("0 is 0", Check.told("modulo 12 1;equation 0 is 0;").witness(), NONE);
        edges.due("with a SOLUTION", Check.told("modulo 12 1;equation 6 is 6;").witness(), NONE);
        edges.due("of three with one SOLUTION", three().witness(), NONE);
        edges.refused("witness() changes nothing", y -> y.witness(), NONE);
    }

    private void kernel() {
        edges.says("KERNEL: those of the same left sides with right sides 0.");
        edges.due("of HOPELESS ones", Check.told("modulo 12 2;equation 6 0 is 1;equation 0 0 is 5;").kernel(3), 72);
        edges.due("of three that leave one", three().kernel(3), 1);
        edges.due("without EQUATIONS", Check.told("modulo 30 3;").kernel(3), 27000);
        edges.says("KERNEL comes to a place: SIZE; NONE: no such place, no M.");
        for (int to = 0; to < 4; to++) {
            ModuleRows x = Check.told("modulo 12 2;equation 6 0 is 1;");
            edges.due("kernel(" + to + ")", x.kernel(to), 72);
            for (int place = 0; place < 4; place++) {
                edges.due("many(" + place + ") then", x.many(place), place == to ? 72 : 1);
            }
            edges.due("EQUATIONS stay", x.equation(0, 3), 1);
        }
        for (int place : Edges.NO_PLACES) {
            edges.refused("kernel(" + place + ")", y -> y.kernel(place), NONE);
        }
        edges.refusedWithoutM("kernel(0)", y -> y.kernel(0), NONE);
    }

    private void sides() {
        edges.says("All ROWS that a MODULE has as left sides are EQUATIONS then (those of its FORM, by columns) with right "
            + "sides 0: how many; NONE: no such MODULE, no M.");
        ModuleRows x = Check.told("modulo 30 3;equation 1 2 3 is 4;equation 5 6 7 is 8;equation 9 10 11 is 12;"
            + "module;module;row 2 3 5;row 0 5 0;module;row 0 0 7;module;row 1 0 0;row 0 1 0;row 0 0 1;");
        edges.due("all ROWS", x.sides(3), 3);
        edges.due("right sides are 0", x.equation(0, 3) + x.equation(1, 3) + x.equation(2, 3), 0);
        edges.due("the one SOLUTION", x.solutions(), 1);
        edges.due("one", x.sides(2), 1);
        edges.due("that of column 2", x.equation(0, 2), 1);
        edges.due("and 0 ahead", x.equation(0, 0) + x.equation(0, 1), 0);
        edges.due("no second one", x.equation(1, 0), NONE);
        edges.due("the ROW 0 alone", x.sides(0), 0);
        edges.due("no EQUATIONS", x.now(2), 0);
        edges.due("all are SOLUTIONS", x.solutions(), 27000);
        int count = x.sides(1);
        int at = 0;
        for (int column = 0; column < 3; column++) {
            if (x.form(1, column) != NONE) {
                int told = 10000 * x.equation(at, 0) + 100 * x.equation(at, 1) + x.equation(at, 2);
                edges.due("the ROW of column " + column, told, x.form(1, column));
                at++;
            }
        }
        edges.due("as many as the FORM has", count, at);
        for (int place : Edges.NO_PLACES) {
            edges.refused("sides(" + place + ")", y -> y.sides(place), NONE);
        }
        edges.refusedWithoutM("sides(0)", y -> y.sides(0), NONE);
    }

    /** One EQUATION in one column, for each M: all can be said by the common divisor of a and M. */
    private void oneColumn() {
        edges.says("SOLUTIONS: ROWS x by which each left side is its right side (without EQUATIONS: all ROWS).");
        for (int m = 2; m <= 30; m++) {
            for (int a = 0; a < m; a++) {
                ModuleRows x = Check.told("modulo " + m + " 1;");
                int step = divisor(m, a);
                for (int d = 0; d < m; d++) {
                    boolean solved = d % step == 0;
                    String of = " of " + a + " is " + d + " modulo " + m;
                    x.equate(0, a, 0, 0, d);
                    edges.due("solutions" + of, x.solutions(), solved ? step : 0);
                    edges.due("solution" + of, x.solution(), solved ? 10000 * firstOf(m, a, d) : NONE);
                    edges.due("witness" + of, x.witness(), solved ? NONE : 10000 * (m / step));
                }
                edges.due("kernel of " + a + " modulo " + m, x.kernel(0), step);
            }
        }
    }

    private static int firstOf(int m, int a, int d) {
        int x = 0;
        while (a * x % m != d) {
            x++;
        }
        return x;
    }

    private static int divisor(int a, int b) {
        return b == 0 ? a : divisor(b, a % b);
    }
}
