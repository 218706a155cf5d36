import java.util.Random;

/** Long runs of random calls, told to ModuleRows and to the oracle alike: every answer must be the same. */
public final class OracleTest {
    /** An object is used for 512 calls at most; a turn of the loop makes some seventy at the most. */
    private static final int LAST_TURN = 512 - 75;
    private static final int[] ODD = {-1, -2, 4, 5, 31, 100, Integer.MAX_VALUE, Integer.MIN_VALUE, 1 << 16, -30};

    private final Check check = new Check();
    private final Random random;
    private ModuleRows x;
    private Oracle y;
    private String run;
    /** How many calls the object has answered. */
    private int calls;

    private OracleTest(long seed) {
        random = new Random(seed);
    }

    public static void main(String[] args) {
        OracleTest test = new OracleTest(args.length > 1 ? Long.parseLong(args[0]) : 20261118L);
        int runs = args.length > 1 ? Integer.parseInt(args[1]) : 600;
        for (int i = 0; i < runs && test.check.failures() < 20; i++) {
            test.oneRun(i, i % 10 == 0 ? 30 : i % 4 == 0 ? 20 : 13);
        }
        test.check.close("OracleTest");
    }

    private void oneRun(int i, int mostModulus) {
        x = new ModuleRows();
        y = new Oracle();
        run = "run " + i + ": ";
        calls = 0;
        for (int call = 0; calls < LAST_TURN; call++) {
            if (call == 2 || random.nextInt(40) == 0) {
                readText(mostModulus);
            }
            oneCall();
            if (call % 8 == 7) {
                compareAll();
            }
        }
    }

    // ---- arguments

    private int below(int n) {
        return random.nextInt(Math.max(1, n));
    }

    private int place() {
        return random.nextInt(30) == 0 ? ODD[below(ODD.length)] : below(4);
    }

    private int small(int n) {
        return random.nextInt(20) == 0 ? ODD[below(ODD.length)] : below(n);
    }

    /** A number of a ROW; a multiple of a divisor of M more often than not, so that MODULES stay small. */
    private int number(int column) {
        int m = y.now(0);
        if (column >= y.now(1)) {
            return random.nextInt(60) == 0 ? 1 : 0;
        }
        if (random.nextInt(60) == 0) {
            return random.nextBoolean() ? m : ODD[below(ODD.length)];
        }
        if (random.nextInt(4) == 0) {
            return below(m);
        }
        int step = 1 + below(m);
        return m % step == 0 ? below(m) / step * step : random.nextInt(3) == 0 ? below(m) : 0;
    }

    // ---- one call to both

    private void oneCall() {
        int which = random.nextInt(31);
        if (which < 11) {
            ask(which);
        } else if (which < 21) {
            act(which);
        } else {
            rest(which);
        }
    }

    private void ask(int which) {
        int s = place();
        int a = number(0);
        int b = number(1);
        int c = number(2);
        String of = "(" + s + ", " + a + ", " + b + ", " + c + ")";
        switch (which) {
            case 0:
                due("now(" + a + ")", x.now(a), y.now(a));
                break;
            case 1:
                int column = small(3);
                due("lead(" + s + ", " + column + ")", x.lead(s, column), y.lead(s, column));
                break;
            case 2:
                int other = small(3);
                due("form(" + s + ", " + other + ")", x.form(s, other), y.form(s, other));
                break;
            case 3:
                due("many(" + s + ")", x.many(s), y.many(s));
                break;
            case 4:
                int rank = random.nextInt(8) == 0 ? y.many(s) : small(y.many(s));
                due("row(" + s + ", " + rank + ")", Check.rowOf(x, s, rank), y.row(s, rank));
                break;
            case 5:
                due("rank" + of, x.rank(s, a, b, c), y.rank(s, a, b, c));
                break;
            case 6:
                due("beside" + of, x.beside(s, a, b, c), y.beside(s, a, b, c));
                break;
            case 7:
                due("few(" + s + ")", x.few(s), y.few(s));
                break;
            case 8:
                due("nought(" + s + ")", x.nought(s), y.nought(s));
                break;
            case 9:
                int t = place();
                due("lies(" + s + ", " + t + ")", x.lies(s, t), y.lies(s, t));
                break;
            default:
                rankOfOwn(s);
                break;
        }
    }

    private void rankOfOwn(int s) {
        int rank = below(y.many(s));
        long told = y.row(s, rank);
        if (told != Check.THROWN) {
            int a = (int) told / 10000;
            int b = (int) told / 100 % 100;
            int c = (int) told % 100;
            due("rank of row " + rank + " of " + s, x.rank(s, a, b, c), rank);
        }
    }

    private void act(int which) {
        int s = place();
        int t = place();
        int to = place();
        int a = number(0);
        int b = number(1);
        int c = number(2);
        boolean flag = random.nextBoolean();
        switch (which) {
            case 11:
            case 12:
            case 13:
                due("come(" + s + ", " + a + ", " + b + ", " + c + ")", x.come(s, a, b, c), y.come(s, a, b, c));
                break;
            case 14:
                boolean all = random.nextInt(5) == 0;
                due("clear(" + s + ", " + all + ")", x.clear(s, all), y.clear(s, all));
                break;
            case 15:
            case 16:
                due("join(" + s + ", " + t + ", " + flag + ", " + to + ")", x.join(s, t, flag, to), y.join(s, t, flag, to));
                break;
            case 17:
                due("upright(" + s + ", " + to + ")", x.upright(s, to), y.upright(s, to));
                break;
            case 18:
                int u = number(0);
                due("times(" + s + ", " + u + ", " + flag + ", " + to + ")", x.times(s, u, flag, to), y.times(s, u, flag, to));
                break;
            case 19:
                due("kernel(" + to + ")", x.kernel(to), y.kernel(to));
                break;
            default:
                int n = random.nextInt(3) == 0 ? below(64) : 1 + below(3);
                int seed = random.nextInt();
                due("drawn(" + n + ", " + seed + ")", x.drawn(n, seed), y.drawn(n, seed));
                break;
        }
        due("form(" + to + ", 0)", x.form(to, 0), y.form(to, 0));
    }

    private void rest(int which) {
        int i = random.nextInt(15) == 0 ? ODD[below(ODD.length)] : below(Math.min(4, y.now(2) + 2));
        switch (which) {
            case 21:
            case 22:
            case 23:
                equate(i);
                break;
            case 24:
                due("drop(" + i + ")", x.drop(i), y.drop(i));
                break;
            case 25:
                int what = small(5);
                due("equation(" + i + ", " + what + ")", x.equation(i, what), y.equation(i, what));
                break;
            case 26:
            case 27:
                due("solutions()", x.solutions(), y.solutions());
                due("solution()", x.solution(), y.solution());
                due("witness()", x.witness(), y.witness());
                break;
            case 28:
                int s = place();
                due("sides(" + s + ")", x.sides(s), y.sides(s));
                break;
            case 29:
                for (int k = below(3); k >= 0; k--) {
                    due("undo()", x.undo(), y.undo());
                }
                break;
            default:
                int k = small(3);
                if (random.nextBoolean()) {
                    due("image(" + k + ")", x.image(k), y.image(k));
                } else {
                    due("restore(" + k + ")", x.restore(k), y.restore(k));
                }
                break;
        }
    }

    private void equate(int i) {
        int a = number(0);
        int b = number(1);
        int c = number(2);
        int d = number(0);
        String call = "equate(" + i + ", " + a + ", " + b + ", " + c + ", " + d + ")";
        due(call, x.equate(i, a, b, c, d), y.equate(i, a, b, c, d));
    }

    private void compareAll() {
        for (int what = 0; what < 5; what++) {
            due("now(" + what + ")", x.now(what), y.now(what));
        }
        for (int place = 0; place < 4; place++) {
            due("many(" + place + ")", x.many(place), y.many(place));
            for (int column = 0; column < 3; column++) {
                due("form(" + place + ", " + column + ")", x.form(place, column), y.form(place, column));
            }
        }
        for (int i = 0; i < 3; i++) {
            for (int what = 0; what < 4; what++) {
                due("equation(" + i + ", " + what + ")", x.equation(i, what), y.equation(i, what));
            }
        }
    }

    private void due(String call, long got, long want) {
        calls++;
        check.due(run + call, got, want);
    }

    private void due(String call, boolean got, boolean want) {
        calls++;
        check.due(run + call, got, want);
    }

    // ---- texts

    private void readText(int mostModulus) {
        String text = TextMaker.make(random, mostModulus);
        for (int at = 0; at < text.length(); at += 20) {
            int a = Check.four(text, at);
            int b = Check.four(text, at + 4);
            int c = Check.four(text, at + 8);
            int d = Check.four(text, at + 12);
            int e = Check.four(text, at + 16);
            due("feed", x.feed(a, b, c, d, e), y.feed(a, b, c, d, e));
        }
        int cut = random.nextInt(10) == 0 ? below(text.length() + 25) : text.length();
        due("end(" + cut + ")", x.end(cut), y.end(cut));
        due("text of '" + text + "'", x.text(), y.text());
        due("fault of '" + text + "'", x.fault(), y.fault());
        due("now(4)", x.now(4), y.now(4));
    }
}
