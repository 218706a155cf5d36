import java.util.ArrayDeque;
import java.util.ArrayList;
import java.util.Deque;
import java.util.List;

/**
 * The document once more, by its definitions alone: a MODULE is the set of its ROWS, and everything is found
 * by looking at all ROWS in order. Slow and plain; the tests compare ModuleRows with it.
 */
final class Oracle {
    static final int NONE = -1;

    /** A fault of a text. */
    static final class Fault extends RuntimeException {
        private static final long serialVersionUID = 1L;
        final int kind;
        final int place;

        Fault(int kind, int place) {
            this.kind = kind;
            this.place = place;
        }
    }

    private static final class State {
        int m;
        int width;
        boolean[][] sets = new boolean[4][];
        List<int[]> equations = new ArrayList<>();

        State copy() {
            State s = new State();
            s.m = m;
            s.width = width;
            s.sets = sets.clone();
            for (int[] equation : equations) {
                s.equations.add(equation.clone());
            }
            return s;
        }
    }

    private String tape = "";
    private int fault;
    private State state = new State();
    private final Deque<State> past = new ArrayDeque<>();
    private final State[] images = new State[2];

    // ---- rows by their number in order

    private int all() {
        int n = 1;
        for (int j = 0; j < state.width; j++) {
            n *= state.m;
        }
        return n;
    }

    private int[] unpack(int number) {
        int[] row = new int[3];
        for (int j = state.width - 1; j >= 0; j--) {
            row[j] = number % state.m;
            number /= state.m;
        }
        return row;
    }

    private int pack(int[] row) {
        int number = 0;
        for (int j = 0; j < state.width; j++) {
            number = number * state.m + row[j];
        }
        return number;
    }

    private int combine(int one, int times, int other) {
        int[] a = unpack(one);
        int[] b = unpack(other);
        for (int j = 0; j < 3; j++) {
            a[j] = state.m == 0 ? 0 : Math.floorMod(a[j] + times * b[j], state.m);
        }
        return pack(a);
    }

    private int told(int number) {
        int[] row = unpack(number);
        return 10000 * row[0] + 100 * row[1] + row[2];
    }

    private boolean isRow(int a, int b, int c) {
        int[] row = {a, b, c};
        for (int j = 0; j < 3; j++) {
            if (row[j] < 0 || row[j] > 0 && (j >= state.width || row[j] >= state.m)) {
                return false;
            }
        }
        return true;
    }

    private boolean isPlace(int place) {
        return state.m > 0 && place >= 0 && place <= 3;
    }

    private static int count(boolean[] set) {
        int n = 0;
        for (boolean in : set) {
            n += in ? 1 : 0;
        }
        return n;
    }

    private boolean[] alone() {
        boolean[] set = new boolean[all()];
        set[0] = true;
        return set;
    }

    private boolean[] with(boolean[] set, int row) {
        if (set[row]) {
            return set;
        }
        boolean[] more = new boolean[set.length];
        for (int times = 0; times < state.m; times++) {
            int shift = combine(0, times, row);
            for (int i = 0; i < set.length; i++) {
                if (set[i]) {
                    more[combine(i, 1, shift)] = true;
                }
            }
        }
        return more;
    }

    // ---- the calls

    int feed(int... five) {
        if (tape.length() + 20 > 540) {
            return NONE;
        }
        StringBuilder more = new StringBuilder(tape);
        for (int number : five) {
            for (int shift = 24; shift >= 0; shift -= 8) {
                more.append((char) (number >>> shift & 255));
            }
        }
        tape = more.toString();
        return tape.length();
    }

    boolean end(int n) {
        if (n < 0 || n > tape.length()) {
            return false;
        }
        tape = tape.substring(0, n);
        return true;
    }

    int text() {
        String text = tape;
        tape = "";
        State before = state;
        try {
            state = new State();
            int lines = new TextReader(text).read();
            fault = 0;
            past.clear();
            return lines;
        } catch (Fault f) {
            state = before;
            fault = f.kind;
            return -1 - f.place;
        }
    }

    int fault() {
        return fault;
    }

    int now(int what) {
        int[] all = {state.m, state.width, state.equations.size(), past.size(), tape.length()};
        return what < 0 || what > 4 ? NONE : all[what];
    }

    private int firstFor(int module, int column) {
        boolean[] set = state.sets[module];
        for (int i = 0; i < set.length; i++) {
            int[] row = unpack(i);
            boolean fits = set[i] && row[column] != 0;
            for (int j = 0; j < column; j++) {
                fits &= row[j] == 0;
            }
            if (fits) {
                return i;
            }
        }
        return NONE;
    }

    int lead(int module, int column) {
        if (!isPlace(module) || column < 0 || column >= state.width) {
            return NONE;
        }
        int first = firstFor(module, column);
        return first == NONE ? 0 : unpack(first)[column];
    }

    int form(int module, int column) {
        if (!isPlace(module) || column < 0 || column >= state.width) {
            return NONE;
        }
        int first = firstFor(module, column);
        return first == NONE ? NONE : told(first);
    }

    int many(int module) {
        return isPlace(module) ? count(state.sets[module]) : NONE;
    }

    long row(int module, int rank) {
        if (!isPlace(module) || rank < 0) {
            return Check.THROWN;
        }
        int left = rank;
        for (int i = 0; i < all(); i++) {
            if (state.sets[module][i] && left-- == 0) {
                return told(i);
            }
        }
        return Check.THROWN;
    }

    int rank(int module, int a, int b, int c) {
        if (!isPlace(module) || !isRow(a, b, c)) {
            return NONE;
        }
        int row = pack(new int[] {a, b, c});
        if (!state.sets[module][row]) {
            return NONE;
        }
        int ahead = 0;
        for (int i = 0; i < row; i++) {
            ahead += state.sets[module][i] ? 1 : 0;
        }
        return ahead;
    }

    int beside(int module, int a, int b, int c) {
        if (!isPlace(module) || !isRow(a, b, c)) {
            return NONE;
        }
        int row = pack(new int[] {a, b, c});
        int least = row;
        for (int i = 0; i < all(); i++) {
            if (state.sets[module][i]) {
                least = Math.min(least, combine(row, 1, i));
            }
        }
        return told(least);
    }

    /** Small MODULES by trying all ROWS and pairs of them, large ones by what each prime makes nought. */
    int few(int module) {
        if (!isPlace(module)) {
            return NONE;
        }
        boolean[] set = state.sets[module];
        return count(set) <= 100 ? fewByTrying(set) : fewByPrimes(set);
    }

    private int fewByTrying(boolean[] set) {
        int size = count(set);
        if (size == 1) {
            return 0;
        }
        for (int i = 0; i < set.length; i++) {
            if (set[i] && count(with(alone(), i)) == size) {
                return 1;
            }
        }
        for (int i = 0; i < set.length; i++) {
            boolean[] one = set[i] ? with(alone(), i) : null;
            for (int j = 0; one != null && j < i; j++) {
                if (set[j] && count(with(one, j)) == size) {
                    return 2;
                }
            }
        }
        return 3;
    }

    private int fewByPrimes(boolean[] set) {
        int most = 0;
        for (int p : new int[] {2, 3, 5, 7, 11, 13, 17, 19, 23, 29}) {
            int noughted = 0;
            for (int i = 0; i < set.length; i++) {
                noughted += set[i] && combine(0, p, i) == 0 ? 1 : 0;
            }
            int k = 0;
            while (noughted > 1) {
                noughted /= p;
                k++;
            }
            most = Math.max(most, k);
        }
        return most;
    }

    int nought(int module) {
        if (!isPlace(module)) {
            return NONE;
        }
        for (int u = 1; u <= state.m; u++) {
            boolean all = true;
            for (int i = 0; i < all() && all; i++) {
                all = !state.sets[module][i] || combine(0, u, i) == 0;
            }
            if (all) {
                return u;
            }
        }
        throw new IllegalStateException("M times any row is 0");
    }

    int lies(int s, int t) {
        if (!isPlace(s) || !isPlace(t)) {
            return NONE;
        }
        boolean within = true;
        boolean around = true;
        for (int i = 0; i < all(); i++) {
            within &= !state.sets[s][i] || state.sets[t][i];
            around &= !state.sets[t][i] || state.sets[s][i];
        }
        return within ? around ? 0 : 1 : around ? 2 : 3;
    }

    private void act() {
        past.addLast(state.copy());
        if (past.size() > 8) {
            past.removeFirst();
        }
    }

    private int put(int to, boolean[] set) {
        act();
        state.sets[to] = set;
        return count(set);
    }

    int come(int module, int a, int b, int c) {
        if (!isPlace(module) || !isRow(a, b, c)) {
            return NONE;
        }
        return put(module, with(state.sets[module], pack(new int[] {a, b, c})));
    }

    int clear(int module, boolean all) {
        if (!isPlace(module)) {
            return NONE;
        }
        boolean[] set = new boolean[all()];
        for (int i = 0; i < set.length; i++) {
            set[i] = all || i == 0;
        }
        return put(module, set);
    }

    int join(int s, int t, boolean meet, int to) {
        if (!isPlace(s) || !isPlace(t) || !isPlace(to)) {
            return NONE;
        }
        boolean[] set = state.sets[s].clone();
        for (int i = 0; i < set.length; i++) {
            if (meet) {
                set[i] &= state.sets[t][i];
            } else if (state.sets[t][i]) {
                set = with(set, i);
            }
        }
        return put(to, set);
    }

    private int dot(int[] a, int[] x) {
        return (a[0] * x[0] + a[1] * x[1] + a[2] * x[2]) % state.m;
    }

    int upright(int s, int to) {
        if (!isPlace(s) || !isPlace(to)) {
            return NONE;
        }
        List<int[]> rows = new ArrayList<>();
        for (int i = 0; i < all(); i++) {
            if (state.sets[s][i]) {
                rows.add(unpack(i));
            }
        }
        boolean[] set = new boolean[all()];
        for (int i = 0; i < set.length; i++) {
            int[] x = unpack(i);
            set[i] = true;
            for (int k = 0; k < rows.size() && set[i]; k++) {
                set[i] = dot(rows.get(k), x) == 0;
            }
        }
        return put(to, set);
    }

    int times(int s, int u, boolean by, int to) {
        if (!isPlace(s) || !isPlace(to) || u < 0 || u >= state.m) {
            return NONE;
        }
        boolean[] set = new boolean[all()];
        for (int i = 0; i < set.length; i++) {
            int multiple = combine(0, u, i);
            if (by) {
                set[i] = state.sets[s][multiple];
            } else if (state.sets[s][i]) {
                set[multiple] = true;
            }
        }
        return put(to, set);
    }

    int equate(int i, int a, int b, int c, int right) {
        boolean told = state.m > 0 && isRow(a, b, c) && right >= 0 && right < state.m;
        if (!told || i < 0 || i > state.equations.size() || i > 2) {
            return NONE;
        }
        act();
        if (i < state.equations.size()) {
            state.equations.remove(i);
        }
        state.equations.add(i, new int[] {a, b, c, right});
        return state.equations.size();
    }

    int drop(int i) {
        if (i < 0 || i >= state.equations.size()) {
            return NONE;
        }
        act();
        state.equations.remove(i);
        return state.equations.size();
    }

    int equation(int i, int what) {
        if (i < 0 || i >= state.equations.size() || what < 0 || what > 3) {
            return NONE;
        }
        return state.equations.get(i)[what];
    }

    private boolean[] solved(boolean nought) {
        boolean[] set = new boolean[all()];
        for (int i = 0; i < set.length; i++) {
            int[] x = unpack(i);
            set[i] = true;
            for (int[] equation : state.equations) {
                set[i] &= dot(equation, x) == (nought ? 0 : equation[3]);
            }
        }
        return set;
    }

    int solutions() {
        return state.m == 0 ? NONE : count(solved(false));
    }

    int solution() {
        if (state.m == 0) {
            return NONE;
        }
        boolean[] set = solved(false);
        for (int i = 0; i < set.length; i++) {
            if (set[i]) {
                return told(i);
            }
        }
        return NONE;
    }

    int witness() {
        if (state.m == 0) {
            return NONE;
        }
        int n = state.equations.size();
        int[] most = {n > 0 ? state.m : 1, n > 1 ? state.m : 1, n > 2 ? state.m : 1};
        for (int a = 0; a < most[0]; a++) {
            for (int b = 0; b < most[1]; b++) {
                for (int c = 0; c < most[2]; c++) {
                    if (shows(new int[] {a, b, c})) {
                        return 10000 * a + 100 * b + c;
                    }
                }
            }
        }
        return NONE;
    }

    private boolean shows(int[] u) {
        int[] sums = new int[4];
        for (int i = 0; i < state.equations.size(); i++) {
            for (int what = 0; what < 4; what++) {
                sums[what] = (sums[what] + u[i] * state.equations.get(i)[what]) % state.m;
            }
        }
        return sums[0] == 0 && sums[1] == 0 && sums[2] == 0 && sums[3] != 0;
    }

    int kernel(int to) {
        return isPlace(to) ? put(to, solved(true)) : NONE;
    }

    int sides(int module) {
        if (!isPlace(module)) {
            return NONE;
        }
        act();
        state.equations.clear();
        for (int column = 0; column < state.width; column++) {
            int first = firstFor(module, column);
            if (first != NONE) {
                int[] row = unpack(first);
                state.equations.add(new int[] {row[0], row[1], row[2], 0});
            }
        }
        return state.equations.size();
    }

    int drawn(int n, int seed) {
        if (n < 1 || n > 60) {
            return NONE;
        }
        if (state.m == 0) {
            return 0;
        }
        act();
        long s = seed;
        for (int deed = 0; deed < n; deed++) {
            int[] draws = new int[4];
            for (int k = 0; k <= state.width; k++) {
                s = (int) (s * 1103515245L + 12345L);
                draws[k] = (int) ((s & 0xffffffffL) >> 8) % (k == 0 ? 4 : state.m);
            }
            int row = pack(new int[] {draws[1], draws[2], draws[3]});
            state.sets[draws[0]] = with(state.sets[draws[0]], row);
        }
        return many(0) + many(1) + many(2) + many(3);
    }

    int undo() {
        if (past.isEmpty()) {
            return NONE;
        }
        state = past.removeLast();
        return past.size();
    }

    boolean image(int k) {
        if (k != 0 && k != 1) {
            return false;
        }
        images[k] = state.copy();
        return true;
    }

    boolean restore(int k) {
        if (k != 0 && k != 1 || images[k] == null) {
            return false;
        }
        state = images[k].copy();
        past.clear();
        return true;
    }

    /** Reads a text LINE by LINE, going down, and throws the first fault. */
    private final class TextReader {
        private final String text;
        private int at;
        private int begin;
        private int modules;

        TextReader(String text) {
            this.text = text;
        }

        int read() {
            int lines = 0;
            String token = next();
            while (!token.isEmpty()) {
                line(token, lines == 0);
                lines++;
                token = next();
            }
            if (text.length() > 500) {
                throw new Fault(1, 500);
            }
            return lines;
        }

        private void line(String word, boolean first) {
            if (first != word.equals("modulo")) {
                throw new Fault(1, begin);
            }
            switch (word) {
                case "modulo":
                    state.m = number(2, 30);
                    state.width = number(1, 3);
                    for (int place = 0; place < 4; place++) {
                        state.sets[place] = alone();
                    }
                    break;
                case "module":
                    if (++modules > 4) {
                        throw new Fault(3, begin);
                    }
                    break;
                case "row":
                    if (modules == 0) {
                        throw new Fault(1, begin);
                    }
                    int row = pack(numbers());
                    state.sets[modules - 1] = with(state.sets[modules - 1], row);
                    break;
                case "equation":
                    if (state.equations.size() == 3) {
                        throw new Fault(3, begin);
                    }
                    int[] left = numbers();
                    expect("is");
                    state.equations.add(new int[] {left[0], left[1], left[2], number(0, state.m - 1)});
                    break;
                default:
                    throw new Fault(1, begin);
            }
            expect(";");
        }

        private int[] numbers() {
            int[] row = new int[3];
            for (int j = 0; j < state.width; j++) {
                row[j] = number(0, state.m - 1);
            }
            return row;
        }

        private int number(int least, int most) {
            String token = next();
            if (!token.matches("[0-9]{1,2}")) {
                throw new Fault(1, begin);
            }
            int number = Integer.parseInt(token);
            if (number < least || number > most) {
                throw new Fault(2, begin);
            }
            return number;
        }

        private void expect(String wanted) {
            if (!next().equals(wanted)) {
                throw new Fault(1, begin);
            }
        }

        /** The next token, empty at the end; begin is its place. */
        private String next() {
            while (at < text.length() && (text.charAt(at) == ' ' || text.charAt(at) == '\n')) {
                at++;
            }
            begin = Math.min(at, 500);
            if (at >= Math.min(500, text.length())) {
                return "";
            }
            int from = at;
            at++;
            if (String.valueOf(text.charAt(from)).matches("[a-z0-9]")) {
                while (at < text.length() && String.valueOf(text.charAt(at)).matches("[a-z0-9]")) {
                    at++;
                }
            }
            return text.substring(from, at);
        }
    }
}
