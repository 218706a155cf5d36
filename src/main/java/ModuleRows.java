import java.util.Arrays;
import java.util.NoSuchElementException;

/**
 * Linear systems modulo any number: modules of short rows, equations, and what can be asked of them.
 * The document of the project says each call; the words in capitals are its terms.
 */
public final class ModuleRows {
    public static final int NONE = -1;

    private static final int PLACES = 4;
    private static final int WIDEST = 3;
    private static final int MOST_EQUATIONS = 3;
    /** Where the right side of an EQUATION stands, behind its left side. */
    private static final int RIGHT = 3;
    private static final int MOST_DEEDS = 60;
    private static final int IMAGES = 2;
    private static final int FED = 20;

    private final Tape tape;
    private final Book book;
    private final Past past;
    private final Reckoner reckoner;
    private final Reader reader;
    private final int[][] images;
    private final boolean[] imaged;
    /** The ROW that the call at hand tells or answers; held here so that no call makes one. */
    private final int[] line;
    private int faultKind;
    private int seedNow;

    public ModuleRows() {
        tape = new Tape();
        book = new Book();
        past = new Past();
        reckoner = new Reckoner();
        reader = new Reader(tape, reckoner);
        images = new int[IMAGES][Book.SIZE];
        imaged = new boolean[IMAGES];
        line = new int[WIDEST];
    }

    // ---- the tape and its TEXT

    public int feed(int a, int b, int c, int d, int e) {
        if (!tape.hasRoom(FED)) {
            return NONE;
        }
        tape.append(a);
        tape.append(b);
        tape.append(c);
        tape.append(d);
        tape.append(e);
        return tape.length();
    }

    public boolean end(int n) {
        return tape.cut(n);
    }

    public int text() {
        boolean fine = reader.readText();
        tape.cut(0);
        faultKind = reader.faultKind();
        if (!fine) {
            return -1 - reader.faultPlace();
        }
        reader.giveTo(book);
        past.forget();
        return reader.lineCount();
    }

    public int fault() {
        return faultKind;
    }

    public int now(int what) {
        switch (what) {
            case 0:
                return book.modulus();
            case 1:
                return book.width();
            case 2:
                return book.equationCount();
            case 3:
                return past.count();
            case 4:
                return tape.length();
            default:
                return NONE;
        }
    }

    // ---- what a MODULE is

    public int lead(int module, int column) {
        return hasColumn(module, column) ? book.formAt(module, column, column) : NONE;
    }

    public int form(int module, int column) {
        if (!hasColumn(module, column) || book.formAt(module, column, column) == 0) {
            return NONE;
        }
        book.copyForm(module, column, line);
        return toldBack();
    }

    public int many(int module) {
        return book.hasPlace(module) ? book.sizeOf(module) : NONE;
    }

    public int row(int module, int rank) throws NoSuchElementException {
        if (!book.hasPlace(module) || rank < 0 || rank >= book.sizeOf(module)) {
            throw new NoSuchElementException("no ROW of that rank");
        }
        book.findRanked(module, rank, line);
        return toldBack();
    }

    public int rank(int module, int a, int b, int c) {
        if (!takeRow(module, a, b, c)) {
            return NONE;
        }
        int ahead = book.countAhead(module, line);
        book.lessen(module, line);
        return isZero(line) ? ahead : NONE;
    }

    public int beside(int module, int a, int b, int c) {
        if (!takeRow(module, a, b, c)) {
            return NONE;
        }
        book.lessen(module, line);
        return toldBack();
    }

    public int few(int module) {
        return book.hasPlace(module) ? reckoner.fewestRows(book, module) : NONE;
    }

    public int nought(int module) {
        return book.hasPlace(module) ? book.leastNoughting(module) : NONE;
    }

    public int lies(int s, int t) {
        if (!book.hasPlace(s) || !book.hasPlace(t)) {
            return NONE;
        }
        boolean within = isInside(s, t);
        boolean around = isInside(t, s);
        if (within) {
            return around ? 0 : 1;
        }
        return around ? 2 : 3;
    }

    // ---- acts on MODULES

    public int come(int module, int a, int b, int c) {
        if (!takeRow(module, a, b, c)) {
            return NONE;
        }
        past.keep(book);
        reckoner.absorb(book, module, line);
        return book.sizeOf(module);
    }

    public int clear(int module, boolean all) {
        if (!book.hasPlace(module)) {
            return NONE;
        }
        past.keep(book);
        book.setPlain(module, all ? 1 : 0);
        return book.sizeOf(module);
    }

    public int join(int s, int t, boolean meet, int to) {
        if (!book.hasPlace(s) || !book.hasPlace(t) || !book.hasPlace(to)) {
            return NONE;
        }
        past.keep(book);
        if (meet) {
            reckoner.putMet(book, s, t, to);
        } else {
            reckoner.putJoined(book, s, t, to);
        }
        return book.sizeOf(to);
    }

    public int upright(int s, int to) {
        if (!book.hasPlace(s) || !book.hasPlace(to)) {
            return NONE;
        }
        past.keep(book);
        reckoner.putUpright(book, s, to);
        return book.sizeOf(to);
    }

    public int times(int s, int u, boolean by, int to) {
        if (!book.hasPlace(s) || !book.hasPlace(to) || !book.hasNumber(u)) {
            return NONE;
        }
        past.keep(book);
        if (by) {
            reckoner.putBy(book, s, u, to);
        } else {
            reckoner.putTimes(book, s, u, to);
        }
        return book.sizeOf(to);
    }

    // ---- EQUATIONS

    public int equate(int i, int a, int b, int c, int right) {
        if (i < 0 || i > book.equationCount() || i >= MOST_EQUATIONS) {
            return NONE;
        }
        if (!book.hasNumber(right) || !book.hasRow(a, b, c)) {
            return NONE;
        }
        past.keep(book);
        if (i == book.equationCount()) {
            book.setEquationCount(i + 1);
        }
        setLine(a, b, c);
        book.setEquation(i, line, right);
        return book.equationCount();
    }

    public int drop(int i) {
        if (i < 0 || i >= book.equationCount()) {
            return NONE;
        }
        past.keep(book);
        book.removeEquation(i);
        return book.equationCount();
    }

    public int equation(int i, int what) {
        if (i < 0 || i >= book.equationCount() || what < 0 || what > RIGHT) {
            return NONE;
        }
        return book.sideAt(i, what);
    }

    public int solutions() {
        return book.modulus() > 0 ? reckoner.countSolutions(book) : NONE;
    }

    public int solution() {
        if (book.modulus() == 0 || !reckoner.findSolution(book, line)) {
            return NONE;
        }
        return toldBack();
    }

    public int witness() {
        if (book.modulus() == 0 || !reckoner.findWitness(book, line)) {
            return NONE;
        }
        return toldBack();
    }

    public int kernel(int to) {
        if (!book.hasPlace(to)) {
            return NONE;
        }
        past.keep(book);
        reckoner.putKernel(book, to);
        return book.sizeOf(to);
    }

    public int sides(int module) {
        if (!book.hasPlace(module)) {
            return NONE;
        }
        past.keep(book);
        int count = 0;
        for (int column = 0; column < book.width(); column++) {
            if (book.formAt(module, column, column) > 0) {
                book.copyForm(module, column, line);
                book.setEquation(count, line, 0);
                count++;
            }
        }
        book.setEquationCount(count);
        return count;
    }

    // ---- DRAWN, undone, images

    public int drawn(int n, int seed) {
        if (n < 1 || n > MOST_DEEDS) {
            return NONE;
        }
        if (book.modulus() == 0) {
            return 0;
        }
        past.keep(book);
        seedNow = seed;
        for (int deed = 0; deed < n; deed++) {
            doDeed();
        }
        int sum = 0;
        for (int place = 0; place < PLACES; place++) {
            sum += book.sizeOf(place);
        }
        return sum;
    }

    public int undo() {
        return past.goBack(book) ? past.count() : NONE;
    }

    public boolean image(int k) {
        if (k < 0 || k >= IMAGES) {
            return false;
        }
        book.copyTo(images[k]);
        imaged[k] = true;
        return true;
    }

    public boolean restore(int k) {
        if (k < 0 || k >= IMAGES || !imaged[k]) {
            return false;
        }
        book.copyFrom(images[k]);
        past.forget();
        return true;
    }

    // ---- helpers of the calls

    private boolean hasColumn(int module, int column) {
        return book.hasPlace(module) && column >= 0 && column < book.width();
    }

    /** Whether there are such a MODULE and such a ROW; the line is that ROW then. */
    private boolean takeRow(int module, int a, int b, int c) {
        if (!book.hasPlace(module) || !book.hasRow(a, b, c)) {
            return false;
        }
        setLine(a, b, c);
        return true;
    }

    private void setLine(int a, int b, int c) {
        line[0] = a;
        line[1] = b;
        line[2] = c;
    }

    private int toldBack() {
        return 10000 * line[0] + 100 * line[1] + line[2];
    }

    private static boolean isZero(int[] row) {
        for (int number : row) {
            if (number != 0) {
                return false;
            }
        }
        return true;
    }

    private boolean isInside(int inner, int outer) {
        for (int column = 0; column < book.width(); column++) {
            book.copyForm(inner, column, line);
            book.lessen(outer, line);
            if (!isZero(line)) {
                return false;
            }
        }
        return true;
    }

    private void doDeed() {
        int place = draw(PLACES);
        setLine(0, 0, 0);
        for (int column = 0; column < book.width() && column < WIDEST; column++) {
            line[column] = draw(book.modulus());
        }
        reckoner.absorb(book, place, line);
    }

    private int draw(int n) {
        seedNow = seedNow * 1103515245 + 12345;
        return n > 0 ? (seedNow >>> 8) % n : 0;
    }

    /** The bytes that have come and are not read yet. */
    private static final class Tape {
        private static final int MOST = 540;

        private final byte[] bytes = new byte[MOST];
        private int length;

        int length() {
            return length;
        }

        boolean hasRoom(int more) {
            return more <= MOST - length;
        }

        void append(int four) {
            if (hasRoom(4)) {
                bytes[length] = (byte) (four >>> 24);
                bytes[length + 1] = (byte) (four >>> 16);
                bytes[length + 2] = (byte) (four >>> 8);
                bytes[length + 3] = (byte) four;
                length += 4;
            }
        }

        boolean cut(int n) {
            if (n < 0 || n > length) {
                return false;
            }
            length = n;
            return true;
        }

        /** The byte at a place, 0 to 255; NONE beyond the last one. */
        int byteAt(int place) {
            return place >= 0 && place < length ? bytes[place] & 255 : NONE;
        }
    }

    /**
     * M, WIDTH, the MODULES by their FORMS and the EQUATIONS. All stands in one array of numbers, so that
     * acts to be undone and images are plain copies of it.
     */
    private static final class Book {
        private static final int MODULUS = 0;
        private static final int WIDTH = 1;
        private static final int COUNT = 2;
        private static final int FORMS = 3;
        private static final int SIDES = FORMS + PLACES * WIDEST * WIDEST;
        private static final int SIDE = RIGHT + 1;
        static final int SIZE = SIDES + MOST_EQUATIONS * SIDE;

        private final int[] cells = new int[SIZE];

        int modulus() {
            return cells[MODULUS];
        }

        int width() {
            return cells[WIDTH];
        }

        int equationCount() {
            return cells[COUNT];
        }

        void setEquationCount(int count) {
            cells[COUNT] = Math.max(0, Math.min(count, MOST_EQUATIONS));
        }

        void startAnew(int modulus, int width) {
            Arrays.fill(cells, 0);
            cells[MODULUS] = modulus;
            cells[WIDTH] = Math.max(0, Math.min(width, WIDEST));
        }

        void copyTo(int[] other) {
            System.arraycopy(cells, 0, other, 0, Math.min(SIZE, other.length));
        }

        void copyFrom(int[] other) {
            System.arraycopy(other, 0, cells, 0, Math.min(SIZE, other.length));
        }

        // -- what there is

        boolean hasPlace(int place) {
            return cells[MODULUS] > 0 && place >= 0 && place < PLACES;
        }

        boolean hasNumber(int number) {
            return number >= 0 && number < cells[MODULUS];
        }

        boolean hasRow(int a, int b, int c) {
            return fits(0, a) && fits(1, b) && fits(2, c);
        }

        private boolean fits(int column, int number) {
            return column < cells[WIDTH] ? hasNumber(number) : number == 0;
        }

        private int residue(int number) {
            int m = cells[MODULUS];
            return m > 0 ? Math.floorMod(number, m) : 0;
        }

        // -- MODULES by their FORMS

        /** Where a number of a FORM stands; NONE if there is no such one. */
        private static int formCell(int place, int column, int at) {
            if (place < 0 || place >= PLACES || column < 0 || column >= WIDEST || at < 0 || at >= WIDEST) {
                return NONE;
            }
            return FORMS + (place * WIDEST + column) * WIDEST + at;
        }

        /** A number of the ROW that FORM has for a column; all of them are 0 where it has none. */
        int formAt(int place, int column, int at) {
            int cell = formCell(place, column, at);
            return cell >= 0 ? cells[cell] : 0;
        }

        void setFormAt(int place, int column, int at, int number) {
            int cell = formCell(place, column, at);
            if (cell >= 0) {
                cells[cell] = number;
            }
        }

        void copyForm(int place, int column, int[] row) {
            for (int at = 0; at < row.length; at++) {
                row[at] = formAt(place, column, at);
            }
        }

        /** The MODULE whose FORM has the same LEAD in each column and 0 beside it. */
        void setPlain(int place, int lead) {
            for (int column = 0; column < cells[WIDTH]; column++) {
                for (int at = 0; at < cells[WIDTH]; at++) {
                    setFormAt(place, column, at, at == column ? lead : 0);
                }
            }
        }

        /** How many numbers can stand in a column where the numbers ahead of it are chosen. */
        private int choices(int place, int column) {
            int lead = formAt(place, column, column);
            return lead > 0 ? Math.max(1, cells[MODULUS] / lead) : 1;
        }

        int sizeOf(int place) {
            return sizeFrom(place, 0);
        }

        private int sizeFrom(int place, int first) {
            int size = 1;
            for (int column = first; column < cells[WIDTH]; column++) {
                size *= choices(place, column);
            }
            return size;
        }

        private void addForm(int place, int column, int times, int[] row) {
            for (int at = column; at < row.length; at++) {
                row[at] = residue(row[at] + times * formAt(place, column, at));
            }
        }

        /** Makes a ROW the first of those that it makes together with one of a MODULE. */
        void lessen(int place, int[] row) {
            for (int column = 0; column < cells[WIDTH] && column < row.length; column++) {
                int lead = formAt(place, column, column);
                if (lead > 0) {
                    addForm(place, column, -(row[column] / lead), row);
                }
            }
        }

        /** Makes a row the one of a rank: the rank's digits, by the choices, choose column by column. */
        void findRanked(int place, int rank, int[] row) {
            Arrays.fill(row, 0);
            int left = rank;
            for (int column = 0; column < cells[WIDTH] && column < row.length; column++) {
                int behind = Math.max(1, sizeFrom(place, column + 1));
                int lead = formAt(place, column, column);
                if (lead > 0) {
                    addForm(place, column, left / behind - row[column] / lead, row);
                }
                left %= behind;
            }
        }

        /** The rank of a ROW that is in the MODULE. */
        int countAhead(int place, int[] row) {
            int ahead = 0;
            for (int column = 0; column < cells[WIDTH] && column < row.length; column++) {
                int lead = formAt(place, column, column);
                if (lead > 0) {
                    ahead += row[column] / lead * sizeFrom(place, column + 1);
                }
            }
            return ahead;
        }

        int leastNoughting(int place) {
            int u = 1;
            while (u < cells[MODULUS] && !noughts(place, u)) {
                u++;
            }
            return u;
        }

        private boolean noughts(int place, int u) {
            for (int column = 0; column < cells[WIDTH]; column++) {
                for (int at = column; at < cells[WIDTH]; at++) {
                    if (residue(u * formAt(place, column, at)) != 0) {
                        return false;
                    }
                }
            }
            return true;
        }

        // -- EQUATIONS

        /** Where a number of an EQUATION stands; NONE if there is no such one. */
        private static int sideCell(int i, int what) {
            if (i < 0 || i >= MOST_EQUATIONS || what < 0 || what >= SIDE) {
                return NONE;
            }
            return SIDES + i * SIDE + what;
        }

        int sideAt(int i, int what) {
            int cell = sideCell(i, what);
            return cell >= 0 ? cells[cell] : 0;
        }

        private void setSideAt(int i, int what, int number) {
            int cell = sideCell(i, what);
            if (cell >= 0) {
                cells[cell] = number;
            }
        }

        void setEquation(int i, int[] left, int right) {
            for (int at = 0; at < WIDEST && at < left.length; at++) {
                setSideAt(i, at, left[at]);
            }
            setSideAt(i, RIGHT, right);
        }

        void removeEquation(int gone) {
            for (int i = gone; i < cells[COUNT] - 1; i++) {
                for (int what = 0; what < SIDE; what++) {
                    setSideAt(i, what, sideAt(i + 1, what));
                }
            }
            setEquationCount(cells[COUNT] - 1);
        }
    }

    /** The books as they were ahead of the latest acts: a ring, in which a ninth takes the first one's slot. */
    private static final class Past {
        private static final int KEPT = 8;
        /** KEPT is a power of two: with this mask a slot's number is always a good one. */
        private static final int MASK = KEPT - 1;

        private final int[][] slots = new int[KEPT][Book.SIZE];
        private int next;
        private int count;

        int count() {
            return count;
        }

        void forget() {
            count = 0;
        }

        void keep(Book book) {
            book.copyTo(slots[next & MASK]);
            next = (next + 1) & MASK;
            count = Math.min(count + 1, KEPT);
        }

        boolean goBack(Book book) {
            if (count == 0) {
                return false;
            }
            next = (next - 1) & MASK;
            count--;
            book.copyFrom(slots[next & MASK]);
            return true;
        }
    }

    /**
     * Makes the FORM of the module that some rows make. The rows can be wider than ROWS are: what is 0 in
     * the columns ahead of a cut has its FORM behind the cut, and this is how MODULES are met and EQUATIONS
     * solved.
     */
    private static final class Shaper {
        private static final int MOST_ROWS = 2 * WIDEST;
        private static final int MOST_COLUMNS = MOST_EQUATIONS + 1 + WIDEST;
        /** Numbers up to 30 need less than ten steps of Euclid's. */
        private static final int MOST_STEPS = 40;

        private final int[][] rows = new int[MOST_ROWS][MOST_COLUMNS];
        private final int[][] forms = new int[MOST_COLUMNS][MOST_COLUMNS];
        private int modulus = 1;
        private int columns;
        private int count;

        void start(int m, int width) {
            modulus = Math.max(1, m);
            columns = Math.max(0, Math.min(width, MOST_COLUMNS));
            count = 0;
        }

        /** A row of 0 comes behind the others; put() fills it. */
        void addRow() {
            if (count < MOST_ROWS) {
                Arrays.fill(rows[count], 0);
                count++;
            }
        }

        void put(int column, int number) {
            if (count > 0 && count <= MOST_ROWS && column >= 0 && column < columns) {
                int rest = number % modulus;
                rows[count - 1][column] = rest < 0 ? rest + modulus : rest;
            }
        }

        int shapedAt(int column, int at) {
            boolean there = column >= 0 && column < columns && at >= 0 && at < columns;
            return there ? forms[column][at] : 0;
        }

        /**
         * Folds each column of all rows into one. That begins as M in the column, which is 0 modulo M: so the
         * LEAD becomes a divisor of M, and what multiples of the row have behind a 0 stays among the rows.
         */
        void shape() {
            for (int column = 0; column < columns; column++) {
                int[] top = forms[column];
                Arrays.fill(top, 0);
                top[column] = modulus;
                for (int i = 0; i < count; i++) {
                    fold(top, rows[i], column);
                }
                top[column] %= modulus;
            }
            for (int column = 0; column < columns; column++) {
                tidy(column);
            }
        }

        int sizeBehind(int cut) {
            int size = 1;
            for (int column = Math.max(0, cut); column < columns; column++) {
                int lead = forms[column][column];
                size *= lead > 0 ? modulus / lead : 1;
            }
            return size;
        }

        /** Euclid's steps on whole rows: the two make the same module after each, at last with a 0 in low. */
        private void fold(int[] top, int[] low, int column) {
            for (int step = 0; step < MOST_STEPS && low[column] > 0; step++) {
                int less = modulus - top[column] / low[column] % modulus;
                for (int at = column; at < columns; at++) {
                    int rest = (top[at] + less * low[at]) % modulus;
                    top[at] = low[at];
                    low[at] = rest;
                }
            }
        }

        /** Makes a row of the FORM the first one with its LEAD. */
        private void tidy(int column) {
            int[] row = forms[column];
            for (int other = column + 1; other < columns; other++) {
                int lead = forms[other][other];
                if (lead > 0 && row[other] >= lead) {
                    int less = modulus - row[other] / lead;
                    for (int at = other; at < columns; at++) {
                        row[at] = (row[at] + less * forms[other][at]) % modulus;
                    }
                }
            }
        }
    }

    /** Makes MODULES of MODULES and EQUATIONS; each way is a table of rows for the shaper and a cut. */
    private static final class Reckoner {
        private final Shaper shaper = new Shaper();

        /** A ROW comes to a MODULE. */
        void absorb(Book book, int place, int[] row) {
            shaper.start(book.modulus(), book.width());
            addForms(book, place, 1, 0);
            shaper.addRow();
            for (int column = 0; column < row.length; column++) {
                shaper.put(column, row[column]);
            }
            shaper.shape();
            store(book, place, 0);
        }

        void putJoined(Book book, int s, int t, int to) {
            shaper.start(book.modulus(), book.width());
            addForms(book, s, 1, 0);
            addForms(book, t, 1, 0);
            shaper.shape();
            store(book, to, 0);
        }

        /** Rows (s, s) and (t, 0): where s and t are 0 together, s is in both. */
        void putMet(Book book, int s, int t, int to) {
            int width = book.width();
            shaper.start(book.modulus(), 2 * width);
            addForms(book, s, 1, 1);
            addForms(book, t, 1, 0);
            shaper.shape();
            store(book, to, width);
        }

        void putTimes(Book book, int s, int u, int to) {
            shaper.start(book.modulus(), book.width());
            addForms(book, s, u, 0);
            shaper.shape();
            store(book, to, 0);
        }

        /** Rows (u x, x) and (s, 0): where u x and s are 0 together, x is wanted. */
        void putBy(Book book, int s, int u, int to) {
            int width = book.width();
            shaper.start(book.modulus(), 2 * width);
            for (int column = 0; column < width; column++) {
                shaper.addRow();
                shaper.put(column, u);
                shaper.put(width + column, 1);
            }
            addForms(book, s, 1, 0);
            shaper.shape();
            store(book, to, width);
        }

        /** Rows (what each ROW of the FORM makes of x, x): where those are 0, x is wanted. */
        void putUpright(Book book, int s, int to) {
            int width = book.width();
            shaper.start(book.modulus(), 2 * width);
            for (int column = 0; column < width; column++) {
                shaper.addRow();
                for (int i = 0; i < width; i++) {
                    shaper.put(i, book.formAt(s, i, column));
                }
                shaper.put(width + column, 1);
            }
            shaper.shape();
            store(book, to, width);
        }

        void putKernel(Book book, int to) {
            int count = book.equationCount();
            shaper.start(book.modulus(), count + book.width());
            addUnknowns(book, count);
            shaper.shape();
            store(book, to, count);
        }

        /**
         * At the fewest k ROWS make it: then a d leaves at most d to the k of it beside its d times, and
         * some prime of M just as many. So all divisors may be asked, primes or not.
         */
        int fewestRows(Book book, int place) {
            int size = book.sizeOf(place);
            int fewest = 0;
            for (int d = 2; d <= book.modulus(); d++) {
                if (book.modulus() % d == 0) {
                    int left = size / Math.max(1, sizeOfTimes(book, place, d));
                    fewest = Math.max(fewest, powersUpTo(left, d));
                }
            }
            return fewest;
        }

        int countSolutions(Book book) {
            shapeSolutions(book);
            return isSolvable(book) ? shaper.sizeBehind(book.equationCount() + 1) : 0;
        }

        boolean findSolution(Book book, int[] row) {
            shapeSolutions(book);
            int cut = book.equationCount();
            for (int at = 0; at < row.length; at++) {
                row[at] = shaper.shapedAt(cut, cut + 1 + at);
            }
            return isSolvable(book);
        }

        /**
         * Rows (the left side, which multiple it is): behind a left side of 0 are the multiples u. The
         * first u whose right sides are not 0 is in the FORM of these: the last one of it that shows so.
         */
        boolean findWitness(Book book, int[] row) {
            int width = book.width();
            int count = book.equationCount();
            shaper.start(book.modulus(), width + count);
            for (int i = 0; i < count; i++) {
                shaper.addRow();
                for (int at = 0; at < width; at++) {
                    shaper.put(at, book.sideAt(i, at));
                }
                shaper.put(width + i, 1);
            }
            shaper.shape();
            for (int last = count - 1; last >= 0; last--) {
                for (int at = 0; at < row.length; at++) {
                    row[at] = shaper.shapedAt(width + last, width + at);
                }
                if (showsNone(book, row)) {
                    return true;
                }
            }
            return false;
        }

        private boolean showsNone(Book book, int[] multiples) {
            int sum = 0;
            for (int i = 0; i < book.equationCount() && i < multiples.length; i++) {
                sum += multiples[i] * book.sideAt(i, RIGHT);
            }
            return book.residue(sum) != 0;
        }

        /**
         * Rows (left sides less t times the right sides, t, x): t stands ahead of x, so the FORM's row of
         * its column, if its LEAD is 1, has the first SOLUTION, and the rows behind that have the KERNEL.
         */
        private void shapeSolutions(Book book) {
            int count = book.equationCount();
            shaper.start(book.modulus(), count + 1 + book.width());
            shaper.addRow();
            for (int i = 0; i < count; i++) {
                shaper.put(i, -book.sideAt(i, RIGHT));
            }
            shaper.put(count, 1);
            addUnknowns(book, count + 1);
            shaper.shape();
        }

        private boolean isSolvable(Book book) {
            return shaper.shapedAt(book.equationCount(), book.equationCount()) == 1;
        }

        /** For each column of x a row: what it adds to the left sides, and behind the cut itself. */
        private void addUnknowns(Book book, int cut) {
            for (int column = 0; column < book.width(); column++) {
                shaper.addRow();
                for (int i = 0; i < book.equationCount(); i++) {
                    shaper.put(i, book.sideAt(i, column));
                }
                shaper.put(cut + column, 1);
            }
        }

        private int sizeOfTimes(Book book, int place, int d) {
            shaper.start(book.modulus(), book.width());
            addForms(book, place, d, 0);
            shaper.shape();
            return shaper.sizeBehind(0);
        }

        private static int powersUpTo(int most, int d) {
            int count = 0;
            for (int power = d; power <= most && count < WIDEST; power *= d) {
                count++;
            }
            return count;
        }

        /** For each ROW of a FORM a row: so many times that ROW, and behind it so many times again. */
        private void addForms(Book book, int place, int times, int again) {
            int width = book.width();
            for (int column = 0; column < width; column++) {
                shaper.addRow();
                for (int at = column; at < width; at++) {
                    int number = book.formAt(place, column, at);
                    shaper.put(at, times * number);
                    shaper.put(width + at, again * number);
                }
            }
        }

        private void store(Book book, int to, int cut) {
            for (int column = 0; column < book.width(); column++) {
                for (int at = 0; at < book.width(); at++) {
                    book.setFormAt(to, column, at, shaper.shapedAt(cut + column, cut + at));
                }
            }
        }
    }

    /**
     * Reads the tape as a TEXT into a book of its own, so that with a FAULT all stays. It goes TOKEN by
     * TOKEN and knows by the LINE that is open, and how many TOKENS that has, what can come.
     */
    private static final class Reader {
        private static final int MOST_BYTES = 500;
        private static final int LEAST_MODULUS = 2;
        private static final int MOST_MODULUS = 30;

        private static final int NO_TOKEN = 0;
        private static final int LAST = 1;
        private static final int WORD = 2;
        private static final int NUMBER = 3;
        private static final int STOP = 4;

        private static final int NO_LINE = 0;
        private static final int MODULO = 1;
        private static final int MODULE = 2;
        private static final int ROW = 3;
        private static final int EQUATION = 4;

        private static final int MISPLACED = 1;
        private static final int WRONG_NUMBER = 2;
        private static final int TOO_MANY = 3;

        private final Tape tape;
        private final Reckoner reckoner;
        private final Book told = new Book();
        /** The NUMBERS of the open LINE that stand ahead of 'is', and the latest NUMBER. */
        private final int[] numbers = new int[WIDEST];
        private int value;
        /** The TOKEN at hand: its kind, where it begins, where the one behind it may. */
        private int kind;
        private int start;
        private int next;
        /** The open LINE, and how many TOKENS have come behind its WORD. */
        private int open;
        private int slot;
        private int lines;
        private int modules;
        private int faultKind;
        private int faultPlace;

        Reader(Tape tape, Reckoner reckoner) {
            this.tape = tape;
            this.reckoner = reckoner;
        }

        int lineCount() {
            return lines;
        }

        int faultKind() {
            return faultKind;
        }

        int faultPlace() {
            return faultPlace;
        }

        void giveTo(Book book) {
            book.copyFrom(told.cells);
        }

        /** Whether the tape is a TEXT. Each TOKEN takes a byte at the least, which bounds the turns. */
        boolean readText() {
            startText();
            for (int turn = 0; turn <= Tape.MOST && faultKind == 0; turn++) {
                scan();
                if (kind == LAST && open == NO_LINE && tape.length() <= MOST_BYTES) {
                    return true;
                }
                takeToken();
                if (kind == STOP && faultKind == 0) {
                    finishLine();
                }
            }
            return faultKind == 0;
        }

        private void startText() {
            told.startAnew(0, 0);
            next = 0;
            open = NO_LINE;
            lines = 0;
            modules = 0;
            faultKind = 0;
            faultPlace = 0;
        }

        private void refuse(int fault) {
            faultKind = fault;
            faultPlace = start;
        }

        // -- LINES

        private void takeToken() {
            if (open == NO_LINE) {
                openLine();
                return;
            }
            int due = numbersDue();
            if (slot < due || open == EQUATION && slot == due + 1) {
                takeNumber();
            } else if (open == EQUATION && slot == due) {
                takeIs();
            } else if (kind != STOP) {
                refuse(MISPLACED);
            }
            slot++;
        }

        /** How many NUMBERS the open LINE has, but for that behind 'is'. */
        private int numbersDue() {
            switch (open) {
                case MODULO:
                    return 2;
                case MODULE:
                    return 0;
                default:
                    return told.width();
            }
        }

        private void openLine() {
            slot = 0;
            Arrays.fill(numbers, 0);
            if (lines == 0) {
                openIf(isWord("modulo"), MODULO, true);
            } else if (isWord("module")) {
                openIf(true, MODULE, modules < PLACES);
            } else if (isWord("row")) {
                openIf(modules > 0, ROW, true);
            } else {
                openIf(isWord("equation"), EQUATION, told.equationCount() < MOST_EQUATIONS);
            }
        }

        private void openIf(boolean canCome, int line, boolean hasRoom) {
            if (!canCome) {
                refuse(MISPLACED);
            } else if (!hasRoom) {
                refuse(TOO_MANY);
            } else {
                open = line;
            }
        }

        private void takeNumber() {
            if (kind != NUMBER) {
                refuse(MISPLACED);
            } else if (value < leastNumber() || value > mostNumber()) {
                refuse(WRONG_NUMBER);
            } else if (slot >= 0 && slot < numbersDue() && slot < WIDEST) {
                numbers[slot] = value;
            }
        }

        private int leastNumber() {
            if (open != MODULO) {
                return 0;
            }
            return slot == 0 ? LEAST_MODULUS : 1;
        }

        private int mostNumber() {
            if (open != MODULO) {
                return told.modulus() - 1;
            }
            return slot == 0 ? MOST_MODULUS : WIDEST;
        }

        private void takeIs() {
            if (!isWord("is")) {
                refuse(MISPLACED);
            }
        }

        private void finishLine() {
            int count = told.equationCount();
            switch (open) {
                case MODULO:
                    told.startAnew(numbers[0], numbers[1]);
                    break;
                case MODULE:
                    modules++;
                    break;
                case ROW:
                    reckoner.absorb(told, modules - 1, numbers);
                    break;
                default:
                    told.setEquation(count, numbers, value);
                    told.setEquationCount(count + 1);
                    break;
            }
            open = NO_LINE;
            lines++;
        }

        // -- TOKENS

        /** The next TOKEN; it must begin ahead of the 501st byte, but may go on behind that. */
        private void scan() {
            int bound = Math.min(tape.length(), MOST_BYTES);
            while (next < bound && isBlank(tape.byteAt(next))) {
                next++;
            }
            if (next >= bound) {
                kind = LAST;
                start = bound;
                return;
            }
            start = next;
            if (isLetter(tape.byteAt(start)) || isDigit(tape.byteAt(start))) {
                scanRun();
            } else {
                kind = tape.byteAt(start) == ';' ? STOP : NO_TOKEN;
                next++;
            }
        }

        private void scanRun() {
            int letters = 0;
            int digits = 0;
            int number = 0;
            while (next < tape.length() && (isLetter(tape.byteAt(next)) || isDigit(tape.byteAt(next)))) {
                if (isLetter(tape.byteAt(next))) {
                    letters++;
                } else {
                    digits++;
                    number = digits <= 2 ? 10 * number + tape.byteAt(next) - '0' : number;
                }
                next++;
            }
            if (digits == 0) {
                kind = WORD;
            } else if (letters == 0 && digits <= 2) {
                kind = NUMBER;
                value = number;
            } else {
                kind = NO_TOKEN;
            }
        }

        private boolean isWord(String word) {
            if (kind != WORD || next - start != word.length()) {
                return false;
            }
            for (int i = 0; i < word.length(); i++) {
                if (tape.byteAt(start + i) != word.charAt(i)) {
                    return false;
                }
            }
            return true;
        }

        private static boolean isBlank(int sign) {
            return sign == 32 || sign == 10;
        }

        private static boolean isLetter(int sign) {
            return sign >= 'a' && sign <= 'z';
        }

        private static boolean isDigit(int sign) {
            return sign >= '0' && sign <= '9';
        }
    }
}
