/** Edges of what makes MODULES of MODULES: promises 16 to 20. */
final class ActEdges {
    private static final int NONE = ModuleRows.NONE;

    private final Edges edges;

    ActEdges(Edges edges) {
        this.edges = edges;
    }

    void run() {
        come();
        clear();
        joinTerms();
        join();
        uprightTerms();
        upright();
        timesTerms();
        times();
        oneColumn();
        threeColumns();
    }

    private static int divisor(int a, int b) {
        return b == 0 ? a : divisor(b, a % b);
    }

    private void come() {
        edges.says("A ROW comes to a MODULE (which is made by all its ROWS and that): its SIZE then; NONE: no such ones.");
        ModuleRows x = Check.told("modulo 12 2;module;row 2 0;row 0 6;");
        edges.due("the ROW 0", x.come(0, 0, 0, 0), 12);
        edges.due("the ROW 0 to the ROW 0 alone", x.come(1, 0, 0, 0), 1);
        edges.due("a ROW that is in it", x.come(0, 10, 6, 0), 12);
        // 2 2 less 2 0 is 0 2
        edges.due("a ROW that is not", x.come(0, 1, 1, 0), 72);
        edges.due("till all are in it", x.come(0, 0, 1, 0), 144);
        edges.due("its ROWS stay", x.rank(0, 10, 6, 0), 126);
        edges.due("one more to all", x.come(0, 11, 11, 0), 144);
        edges.due("the other places stay", x.many(2), 1);
        for (int place : Edges.NO_PLACES) {
            edges.refused("come(" + place + ", 1, 1, 0)", y -> y.come(place, 1, 1, 0), NONE);
        }
        for (int wild : Edges.WILD) {
            edges.refused("come(0, " + wild + ", 0, 0)", y -> y.come(0, wild, 0, 0), NONE);
            edges.refused("come(0, 0, " + wild + ", 0)", y -> y.come(0, 0, wild, 0), NONE);
            edges.refused("come(0, 0, 0, " + wild + ")", y -> y.come(0, 0, 0, wild), NONE);
        }
        edges.refused("come(0, 12, 0, 0)", y -> y.come(0, 12, 0, 0), NONE);
        edges.refusedWithoutM("come(0, 0, 0, 0)", y -> y.come(0, 0, 0, 0), NONE);
    }

    private void clear() {
        edges.says("A MODULE is that of the ROW 0 alone (all false), of all ROWS (all true): its SIZE; NONE: no such one, no M.");
        for (int width = 1; width <= 3; width++) {
            ModuleRows x = Check.told("modulo 30 " + width + ";");
            for (int place = 0; place < 4; place++) {
                int all = width == 1 ? 30 : width == 2 ? 900 : 27000;
                edges.due("all", x.clear(place, true), all);
                edges.due("all once more", x.clear(place, true), all);
                edges.due("the ROW 0 alone", x.clear(place, false), 1);
                edges.due("no FORM is left", x.form(place, width - 1), NONE);
                edges.due("the ROW 0 alone once more", x.clear(place, false), 1);
            }
        }
        for (int place : Edges.NO_PLACES) {
            edges.refused("clear(" + place + ", false)", y -> y.clear(place, false), NONE);
            edges.refused("clear(" + place + ", true)", y -> y.clear(place, true), NONE);
        }
        edges.refusedWithoutM("clear(0, false)", y -> y.clear(0, false), NONE);
        edges.refusedWithoutM("clear(0, true)", y -> y.clear(0, true), NONE);
    }

    private void joinTerms() {
        edges.says("JOINED: made by the ROWS of both; MET: ROWS of both.");
        // 0: six by six, 1: 3 3, 2: the ROW 0 alone, 3: all
        int[][] joined = {{12, 24, 12, 144}, {24, 4, 4, 144}, {12, 4, 1, 144}, {144, 144, 144, 144}};
        int[][] met = {{12, 2, 1, 12}, {2, 4, 1, 4}, {1, 1, 1, 1}, {12, 4, 1, 144}};
        for (int s = 0; s < 4; s++) {
            for (int t = 0; t < 4; t++) {
                for (int to = 0; to < 4; to++) {
                    ModuleRows x = four();
                    edges.due("JOINED " + s + " and " + t, x.join(s, t, false, to), joined[s][t]);
                    edges.due("many then", x.many(to), joined[s][t]);
                    x.undo();
                    edges.due("MET " + s + " and " + t, x.join(s, t, true, to), met[s][t]);
                    edges.due("many then", x.many(to), met[s][t]);
                }
            }
        }
    }

    /** Some ROWS, some others, the ROW 0 alone and all ROWS. */
    private static ModuleRows four() {
        ModuleRows x = Check.told("modulo 12 2;module;row 2 0;row 0 6;module;row 3 3;");
        x.clear(3, true);
        return x;
    }

    private void join() {
        edges.says("Two MODULES JOINED (meet false), MET (meet true), come to a place: SIZE; NONE: no such ones, no M.");
        ModuleRows x = four();
        x.join(0, 1, false, 2);
        edges.due("s stays", x.many(0), 12);
        edges.due("t stays", x.many(1), 4);
        for (int meet = 0; meet < 2; meet++) {
            boolean met = meet == 1;
            for (int place : Edges.NO_PLACES) {
                edges.refused("join(" + place + ", 0, " + met + ", 0)", y -> y.join(place, 0, met, 0), NONE);
                edges.refused("join(0, " + place + ", " + met + ", 0)", y -> y.join(0, place, met, 0), NONE);
                edges.refused("join(0, 1, " + met + ", " + place + ")", y -> y.join(0, 1, met, place), NONE);
            }
            edges.refusedWithoutM("join(0, 0, " + met + ", 0)", y -> y.join(0, 0, met, 0), NONE);
        }
    }

    private void uprightTerms() {
        edges.says("UPRIGHT on a MODULE: all ROWS x for which a x0 and b x1 and c x2 is 0 for each ROW a, b, c of it.");
        for (int m = 2; m <= 30; m++) {
            for (int width = 1; width <= 3; width++) {
                ModuleRows x = Check.told("modulo " + m + " " + width + ";");
                int all = width == 1 ? m : width == 2 ? m * m : m * m * m;
                edges.due("on the ROW 0 alone modulo " + m, x.upright(0, 1), all);
                edges.due("on all modulo " + m, x.upright(1, 2), 1);
                x.come(3, width == 1 ? m - 1 : 0, width == 2 ? m - 1 : 0, width == 3 ? m - 1 : 0);
                edges.due("on one ROW modulo " + m, x.upright(3, 3), all / m);
            }
        }
        // 29 times 29 is 1, and so is 1: the sum wraps around
        ModuleRows x = Check.told("modulo 30 3;module;row 29 29 29;");
        x.upright(0, 0);
        edges.due("29 1 0 is upright on 29 29 29", x.rank(0, 29, 1, 0) >= 0, true);
        edges.due("29 2 29 too", x.rank(0, 29, 2, 29) >= 0, true);
        edges.due("29 29 29 is not", x.rank(0, 29, 29, 29), NONE);
    }

    private void upright() {
        edges.says("What is UPRIGHT on a MODULE: likewise.");
        for (int place : Edges.NO_PLACES) {
            edges.refused("upright(" + place + ", 0)", y -> y.upright(place, 0), NONE);
            edges.refused("upright(0, " + place + ")", y -> y.upright(0, place), NONE);
        }
        edges.refusedWithoutM("upright(0, 0)", y -> y.upright(0, 0), NONE);
    }

    private void timesTerms() {
        edges.says("TIMES u: its ROWS, each u times; BY u: all ROWS that, u times, are in it.");
        ModuleRows x = four();
        edges.due("TIMES 0", x.times(3, 0, false, 2), 1);
        edges.due("TIMES 1", x.times(0, 1, false, 2), 12);
        edges.due("is the same", x.lies(0, 2), 0);
        edges.due("TIMES 11", x.times(0, 11, false, 2), 12);
        edges.due("is the same, too", x.lies(0, 2), 0);
        edges.due("BY 0", x.times(1, 0, true, 2), 144);
        edges.due("BY 1", x.times(1, 1, true, 2), 4);
        edges.due("is the same", x.lies(1, 2), 0);
        edges.due("BY 11", x.times(1, 11, true, 2), 4);
        edges.due("is the same, too", x.lies(1, 2), 0);
        edges.due("BY 6 of all", x.times(3, 6, true, 2), 144);
        x.clear(2, false);
        edges.due("BY 6 of the ROW 0 alone", x.times(2, 6, true, 2), 36);
        edges.due("TIMES 6 of that", x.times(2, 6, false, 2), 1);
    }

    private void times() {
        edges.says("TIMES u (by false), BY u (by true; u 0 to M less 1): likewise.");
        for (int by = 0; by < 2; by++) {
            boolean divided = by == 1;
            for (int m = 2; m <= 30; m++) {
                ModuleRows x = Check.told("modulo " + m + " 1;module;row 1;");
                edges.due("u 0 modulo " + m, x.times(0, 0, divided, 1), divided ? m : 1);
                edges.due("u " + (m - 1), x.times(0, m - 1, divided, 1), m);
                edges.due("u " + m + " modulo " + m, x.times(0, m, divided, 1), NONE);
                edges.due("u -1 modulo " + m, x.times(0, -1, divided, 1), NONE);
                edges.due("acts", x.now(3), 2);
            }
            for (int u : new int[] {-1, 12, 13, 24, 256, Edges.LEAST, Edges.MOST}) {
                edges.refused("times(0, " + u + ", " + divided + ", 1)", y -> y.times(0, u, divided, 1), NONE);
            }
            for (int place : Edges.NO_PLACES) {
                edges.refused("times(" + place + ", 2, " + divided + ", 0)", y -> y.times(place, 2, divided, 0), NONE);
                edges.refused("times(0, 2, " + divided + ", " + place + ")", y -> y.times(0, 2, divided, place), NONE);
            }
            edges.refusedWithoutM("times(0, 0, " + divided + ", 0)", y -> y.times(0, 0, divided, 0), NONE);
        }
    }

    /** In one column a MODULE is the multiples of a divisor of M, and all can be said by common divisors. */
    private void oneColumn() {
        edges.says("All is reckoned modulo M.");
        for (int m = 2; m <= 30; m++) {
            for (int a = 0; a < m; a++) {
                ModuleRows x = Check.told("modulo " + m + " 1;module;row " + a + ";");
                int step = divisor(m, a);
                String of = " of " + a + " modulo " + m;
                edges.due("lead" + of, x.lead(0, 0), step % m);
                edges.due("many" + of, x.many(0), m / step);
                edges.due("few" + of, x.few(0), step == m ? 0 : 1);
                edges.due("nought" + of, x.nought(0), m / step);
                edges.due("the last" + of, Check.rowOf(x, 0, m / step - 1), 10000 * (m - step));
                edges.due("beside" + of, x.beside(0, m - 1, 0, 0), 10000 * ((m - 1) % step));
                edges.due("upright" + of, x.upright(0, 1), step);
                for (int u = 0; u < m; u++) {
                    oneColumnBoth(x, m, step, u);
                }
            }
        }
    }

    /** MODULES of multiples of a divisor in each of three columns: FORMS as full as they can be, of both at once. */
    private void threeColumns() {
        edges.says("JOINED: made by the ROWS of both; MET: ROWS of both.");
        int[] steps = {1, 2, 3, 4, 6, 12};
        for (int k = 0; k < 36 * 5; k++) {
            int[] s = {steps[k % 5], steps[k / 5 % 6], steps[k / 6 % 6]};
            int[] t = {steps[k / 2 % 6], steps[k / 7 % 6], steps[k % 6]};
            ModuleRows x = Check.told("modulo 12 3;");
            for (int column = 0; column < 3; column++) {
                comeIn(x, 0, column, s[column]);
                comeIn(x, 1, column, t[column]);
            }
            int u = k % 12;
            int[] due = {1, 1, 1, 1, 1};
            for (int column = 0; column < 3; column++) {
                int common = divisor(s[column], t[column]);
                due[0] *= 12 / common;
                due[1] *= 12 * common / (s[column] * t[column]);
                due[2] *= 12 / divisor(12, s[column] * u);
                due[3] *= 12 * divisor(s[column], u) / s[column];
                due[4] *= s[column];
            }
            edges.due("JOINED " + k, x.join(0, 1, false, 2), due[0]);
            edges.due("MET " + k, x.join(0, 1, true, 2), due[1]);
            edges.due("TIMES " + k, x.times(0, u, false, 2), due[2]);
            edges.due("BY " + k, x.times(0, u, true, 2), due[3]);
            edges.due("UPRIGHT " + k, x.upright(0, 2), due[4]);
        }
    }

    /** A ROW that has its one number in a column; 12 is 0. */
    private static void comeIn(ModuleRows x, int place, int column, int step) {
        int number = step % 12;
        x.come(place, column == 0 ? number : 0, column == 1 ? number : 0, column == 2 ? number : 0);
    }

    private void oneColumnBoth(ModuleRows x, int m, int step, int u) {
        int other = divisor(m, u);
        String of = " of " + step + " and " + u + " modulo " + m;
        x.clear(1, false);
        x.come(1, u, 0, 0);
        edges.due("JOINED" + of, x.join(0, 1, false, 2), m / divisor(step, other));
        edges.due("MET" + of, x.join(0, 1, true, 2), m * divisor(step, other) / (step * other));
        edges.due("TIMES" + of, x.times(0, u, false, 2), m / divisor(m, step * u));
        edges.due("BY" + of, x.times(0, u, true, 2), m * divisor(step, u) / step);
        boolean within = step % other == 0;
        boolean around = other % step == 0;
        edges.due("lies" + of, x.lies(0, 1), within ? around ? 0 : 1 : around ? 2 : 3);
    }
}
