/** Edges of a TEXT: its TOKENS, LINES and FAULTS, and promise 4. */
final class TextEdges {
    private static final int NO_FAULT = 0;

    private final Edges edges;

    TextEdges(Edges edges) {
        this.edges = edges;
    }

    void run() {
        everyByte();
        lengthsOfNumbers();
        runsOfLettersAndDigits();
        everyLetter();
        longestText();
        firstLine();
        modules();
        rows();
        equations();
        firstFault();
        leastFault();
        cantCome();
        theEnd();
        beyondTheEnd();
        wrongNumbers();
        tooMany();
        text();
    }

    /** A TEXT without a FAULT has so many LINES; one with a FAULT has it of a kind at a place. */
    private void fine(String text, int lines) {
        ModuleRows x = new ModuleRows();
        edges.due("text of '" + text + "'", Check.read(x, text), lines);
        edges.due("fault of '" + text + "'", x.fault(), NO_FAULT);
    }

    private void faulty(String text, int kind, int place) {
        ModuleRows x = new ModuleRows();
        edges.due("text of '" + text + "'", Check.read(x, text), -1 - place);
        edges.due("fault of '" + text + "'", x.fault(), kind);
        edges.due("no M by '" + text + "'", x.now(0), 0);
    }

    private static String blanks(int count) {
        return " ".repeat(count);
    }

    private static boolean isBlank(int sign) {
        return sign == 32 || sign == 10;
    }

    private static boolean isLetter(int sign) {
        return "abcdefghijklmnopqrstuvwxyz".indexOf(sign) >= 0;
    }

    private static boolean isDigit(int sign) {
        return "0123456789".indexOf(sign) >= 0;
    }

    /** Each of the 256 bytes between TOKENS, behind a WORD and behind a NUMBER. */
    private void everyByte() {
        edges.says("TOKENS of a text, with blanks (32, 10) between them or not: WORDS: small letters; NUMBERS: 1 or 2 "
            + "digits; the sign ;");
        for (int sign = 0; sign < 256; sign++) {
            String at = String.valueOf((char) sign);
            if (isBlank(sign)) {
                fine(at + "modulo 5 1;" + at, 1);
                fine("modulo" + at + "5" + at + "1" + at + ";", 1);
            } else {
                faulty("modulo 5 1;" + at, 1, 11);
                faulty(at + " modulo 5 1;", 1, 0);
                faulty("modulo" + at + " 5 1;", 1, isLetter(sign) || isDigit(sign) ? 0 : 6);
            }
            if (isDigit(sign)) {
                faulty("modulo 5" + at + " 1;", 2, 7);
            } else if (!isBlank(sign)) {
                faulty("modulo 5" + at + " 1;", 1, isLetter(sign) ? 7 : 8);
            }
        }
        fine("modulo 5 1;module;row 4;equation 1 is 2;", 4);
        fine("\n\nmodulo\n5\n1\n;\nmodule\n;\nrow\n4\n;\nequation\n1\nis\n2\n;\n", 4);
    }

    private void lengthsOfNumbers() {
        edges.says("NUMBERS: 1 or 2 digits;");
        fine("modulo 2 1;", 1);
        fine("modulo 02 01;", 1);
        fine("modulo 30 03;module;row 00 00 00;row 09 9 29;", 4);
        faulty("modulo 002 1;", 1, 7);
        faulty("modulo 2 001;", 1, 9);
        faulty("modulo 5 1;module;row 004;", 1, 22);
        faulty("modulo 5 1;equation 1 is 004;", 1, 25);
        // as ints these would wrap around to 2, and to 5
        faulty("modulo 4294967298 1;", 1, 7);
        faulty("modulo 18446744073709551621 1;", 1, 7);
        faulty("modulo " + "9".repeat(480) + " 1;", 1, 7);
        faulty("modulo " + "0".repeat(480) + "5 1;", 1, 7);
    }

    private void runsOfLettersAndDigits() {
        edges.says("(A WORD, NUMBER goes on as long as small letters and digits do; what is not as told is no TOKEN.)");
        faulty("modulo5 1;", 1, 0);
        faulty("5modulo 5 1;", 1, 0);
        faulty("modulo 5 1;module;row4;", 1, 18);
        faulty("modulo 5 1;module;row 4row 4;", 1, 22);
        faulty("modulo 5 1;modulemodule;", 1, 11);
        faulty("modulo 5 1;equation 1is 2;", 1, 20);
        faulty("modulo 5 1;equation 1 is2;", 1, 22);
        faulty("modulo 5 1;modul;", 1, 11);
        faulty("modulo 5 1;modules;", 1, 11);
        faulty("modulo 5 1;module;ro 4;", 1, 18);
        faulty("modulo 5 1;module;rows 4;", 1, 18);
        faulty("modulo 5 1;equation 1 i 2;", 1, 22);
        faulty("modulo 5 1;equations 1 is 2;", 1, 11);
        faulty("modulo 5 1;equatio 1 is 2;", 1, 11);
        faulty("a".repeat(500), 1, 0);
        faulty("modulo 5 1;module" + "e".repeat(480) + ";", 1, 11);
    }

    /** Each WORD with one letter that is another one, and with one letter less: no such WORD can come. */
    private void everyLetter() {
        edges.says("The first LINE: 'modulo' M W");
        String text = "modulo 5 1;module;row 4;equation 1 is 2;";
        for (int at = 0; at < text.length(); at++) {
            if (isLetter(text.charAt(at))) {
                int begin = Math.max(text.lastIndexOf(' ', at), text.lastIndexOf(';', at)) + 1;
                char other = text.charAt(at) == 'x' ? 'y' : 'x';
                faulty(text.substring(0, at) + other + text.substring(at + 1), 1, begin);
                faulty(text.substring(0, at) + text.substring(at + 1), 1, begin);
            }
        }
    }

    private void longestText() {
        edges.says("A TEXT has at most 500 bytes: { LINE ; }.");
        fine("", 0);
        fine("modulo 5 1;" + blanks(488), 1);
        fine("modulo 5 1;" + blanks(489), 1);
        faulty("modulo 5 1;" + blanks(490), 1, 500);
        fine(blanks(489) + "modulo 5 1;", 1);
        faulty(blanks(490) + "modulo 5 1;", 1, 500);
        // of blanks alone: no LINE at all, but bytes all the same
        fine(" ", 0);
        fine("\n".repeat(500), 0);
        faulty("\n".repeat(501), 1, 500);
        fine("modulo 5 1;module;" + "row 3;".repeat(80), 82);
        faulty("modulo 5 1", 1, 10);
        faulty("modulo 5 1;;", 1, 11);
        faulty(";modulo 5 1;", 1, 0);
    }

    private void firstLine() {
        edges.says("The first LINE: 'modulo' M W (M 2 to 30; W, the WIDTH, 1 to 3).");
        for (int m = 0; m <= 99; m++) {
            for (int width = 0; width <= 99; width += width < 5 ? 1 : 47) {
                String text = "modulo " + m + " " + width + ";";
                if (m < 2 || m > 30) {
                    faulty(text, 2, 7);
                } else if (width < 1 || width > 3) {
                    faulty(text, 2, text.indexOf(' ', 7) + 1);
                } else {
                    ModuleRows x = Check.told(text);
                    edges.due("M of " + text, x.now(0), m);
                    edges.due("WIDTH of " + text, x.now(1), width);
                }
            }
        }
        for (String word : new String[] {"module", "row", "equation", "is", "modul", "modulos", "5", ";"}) {
            faulty(word + " 5 1;", 1, 0);
        }
        faulty("modulo 5 1;modulo 5 1;", 1, 11);
        faulty("modulo;", 1, 6);
        faulty("modulo 5;", 1, 8);
        faulty("modulo 5 1 1;", 1, 11);
    }

    private void modules() {
        edges.says("The others: 'module' (the next MODULE, from 0 on, 4 at most)");
        StringBuilder text = new StringBuilder("modulo 30 1;");
        for (int place = 0; place < 4; place++) {
            text.append("module;row ").append(place + 2).append(';');
            ModuleRows x = Check.told(text.toString());
            int[] sizes = {15, 10, 15, 6};
            for (int asked = 0; asked < 4; asked++) {
                edges.due("place " + asked + " of " + (place + 1), x.many(asked), asked <= place ? sizes[asked] : 1);
            }
        }
        fine("modulo 5 1;module;module;module;module;", 5);
        faulty("modulo 5 1;module 0;", 1, 18);
    }

    private void rows() {
        edges.says("| 'row' N .. (WIDTH NUMBERS; comes to the MODULE told last)");
        fine("modulo 5 1;module;row 1;", 3);
        fine("modulo 5 2;module;row 1 2;", 3);
        fine("modulo 5 3;module;row 1 2 3;", 3);
        faulty("modulo 5 1;module;row;", 1, 21);
        faulty("modulo 5 1;module;row 1 2;", 1, 24);
        faulty("modulo 5 2;module;row 1;", 1, 23);
        faulty("modulo 5 2;module;row 1 2 3;", 1, 26);
        faulty("modulo 5 3;module;row 1 2;", 1, 25);
        faulty("modulo 5 3;module;row 1 2 3 4;", 1, 28);
        ModuleRows x = Check.told("modulo 12 1;module;module;row 4;equation 1 is 1;row 6;module;");
        edges.due("not to the MODULE ahead", x.many(0), 1);
        edges.due("both to the MODULE told last", x.form(1, 0), 20000);
        edges.due("nothing to one told behind", x.many(2), 1);
    }

    private void equations() {
        edges.says("| 'equation' N .. 'is' N (WIDTH NUMBERS; 3 at most, from 0 on).");
        ModuleRows x = Check.told("modulo 9 3;equation 1 2 3 is 4;equation 5 6 7 is 8;equation 0 0 0 is 0;");
        edges.due("how many", x.now(2), 3);
        int[] numbers = {1, 2, 3, 4, 5, 6, 7, 8, 0, 0, 0, 0};
        for (int k = 0; k < numbers.length; k++) {
            edges.due("number " + k, x.equation(k / 4, k % 4), numbers[k]);
        }
        ModuleRows narrow = Check.told("modulo 9 1;equation 1 is 4;");
        edges.due("b is 0 beyond WIDTH", narrow.equation(0, 1), 0);
        edges.due("c is 0 beyond WIDTH", narrow.equation(0, 2), 0);
        fine("modulo 9 2;equation 1 2 is 4;", 2);
        faulty("modulo 9 1;equation is 4;", 1, 20);
        faulty("modulo 9 1;equation 1 2 is 4;", 1, 22);
        faulty("modulo 9 2;equation 1 is 4;", 1, 22);
        faulty("modulo 9 3;equation 1 2 3 4 is 4;", 1, 26);
        faulty("modulo 9 1;equation 1 4;", 1, 22);
        faulty("modulo 9 1;equation 1;", 1, 21);
        faulty("modulo 9 1;equation 1 is;", 1, 24);
        faulty("modulo 9 1;equation 1 is 4 4;", 1, 27);
        faulty("modulo 9 1;equation 1 is is;", 1, 25);
        faulty("modulo 9 1;equation 1 row 4;", 1, 22);
    }

    private void firstFault() {
        edges.says("FAULTS, the first along the text, of one TOKEN the least:");
        faulty("modulo 31 9;# row 99;", 2, 7);
        faulty("modulo 30 9;# row 99;", 2, 10);
        faulty("modulo 30 3;# row 99;", 1, 12);
        faulty("modulo 30 3;row # 99;", 1, 12);
        faulty("modulo 5 1;equation 9 # 9", 2, 20);
        faulty("modulo 5 1;module;module;module;module;row 9;module;", 2, 43);
        faulty("modulo 5 1;module;module;module;module;module;row 9;", 3, 39);
        faulty("# " + blanks(520), 1, 0);
    }

    /** TOKENS that could be told as more than one FAULT. */
    private void leastFault() {
        edges.says("of one TOKEN the least: 1 no TOKEN, or one that can't come");
        // too long to be a NUMBER, and too large
        faulty("modulo 100 1;", 1, 7);
        faulty("modulo 5 1;module;row 100;", 1, 22);
        // too large, but nothing but ; can come
        faulty("modulo 5 1 99;", 1, 11);
        faulty("modulo 5 1;module;row 4 99;", 1, 24);
        faulty("modulo 5 1;equation 1 99 1;", 1, 22);
        faulty("modulo 5 1;99;", 1, 11);
        // a fifth MODULE, a fourth EQUATION where its WORD can't come
        faulty("modulo 5 1;module;module;module;module module;", 1, 39);
        faulty("modulo 5 1;equation 1 is 1;equation 1 is 1;equation 1 is 1 equation 1 is 1;", 1, 59);
    }

    /** In each gap of a TEXT each TOKEN that can't come there. */
    private void cantCome() {
        edges.says("1 no TOKEN, or one that can't come (at it; 'row' ahead of any 'module', too;");
        String[] tokens = {"modulo", "9", "1", ";", "module", ";", "row", "3", ";", "equation", "1", "is", "2", ";"};
        String[] others = {"modulo", "9", ";", "module", "row", "equation", "is", "of", "a1", "123", "M", "#", "-1"};
        StringBuilder ahead = new StringBuilder();
        for (String due : tokens) {
            for (String other : others) {
                if (!canCome(ahead.toString(), due, other)) {
                    faulty(ahead + other, 1, ahead.length());
                    faulty(ahead + other + " " + due, 1, ahead.length());
                }
            }
            ahead.append(due).append(' ');
        }
        faulty("modulo 5 1;row 4;", 1, 11);
        faulty("modulo 5 1;row 99;", 1, 11);
        faulty("modulo 5 1;equation 1 is 1;row 4;module;", 1, 27);
    }

    /** Whether a TOKEN can come where another one is due in the TEXT of cantCome(). */
    private static boolean canCome(String ahead, String due, String other) {
        if (isDigit(due.charAt(0))) {
            return other.equals("9");
        }
        boolean opens = ahead.endsWith("; ");
        if (opens && (other.equals("module") || other.equals("equation"))) {
            return true;
        }
        return other.equals(due) || opens && other.equals("row") && ahead.contains("module");
    }

    private void theEnd() {
        edges.says("the end: how many bytes there are;");
        faulty("modulo", 1, 6);
        faulty("modulo ", 1, 7);
        faulty("modulo 5", 1, 8);
        faulty("modulo 5 1", 1, 10);
        faulty("modulo 5 1;module", 1, 17);
        faulty("modulo 5 1;module;row", 1, 21);
        faulty("modulo 5 1;module;row 4", 1, 23);
        faulty("modulo 5 1;equation", 1, 19);
        faulty("modulo 5 1;equation 1", 1, 21);
        faulty("modulo 5 1;equation 1 is", 1, 24);
        faulty("modulo 5 1;equation 1 is 2", 1, 26);
        faulty("modulo 5 1;equation 1 is 2 \n ", 1, 29);
        faulty("modulo 5 1" + blanks(489), 1, 499);
        faulty("modulo 5 1" + blanks(490), 1, 500);
    }

    private void beyondTheEnd() {
        edges.says("500, if there are more and no FAULT is ahead: TOKENS that begin ahead of it are read whole);");
        String line = "modulo 5 1;module;";
        faulty("modulo 5 1" + blanks(491), 1, 500);
        faulty(line + blanks(522), 1, 500);
        // LINES that end behind the 500th byte
        faulty(line + blanks(476) + "row 4 ;", 1, 500);
        faulty(line + blanks(477) + "row 4;", 1, 500);
        faulty(line + blanks(482) + "row 4;", 1, 500);
        // TOKENS that go on behind the 500th byte, and are as told by what stands there
        faulty(line + blanks(481) + "row 4;", 1, 500);
        faulty(line + blanks(481) + "rowe 4;", 1, 499);
        faulty(line + blanks(481) + "module#", 1, 500);
        faulty(line + blanks(481) + "xy", 1, 499);
        faulty("modulo 5 1;" + blanks(488) + "row 4;", 1, 499);
        faulty(line + blanks(477) + "row 40;", 2, 499);
        faulty(line + blanks(477) + "row 04;", 1, 500);
        faulty(line + blanks(477) + "row 044;", 1, 499);
        faulty(line + blanks(477) + "row 4a;", 1, 499);
        // TOKENS that begin at the 501st byte are not read
        faulty(line + blanks(482) + "#", 1, 500);
        faulty(line + blanks(478) + "row 9", 1, 500);
        faulty("modulo 5 1;module;module;module;module;" + blanks(460) + "module;", 3, 499);
        faulty("modulo 5 1;module;module;module;module;" + blanks(461) + "module;", 1, 500);
        // a FAULT ahead
        faulty("#" + blanks(539), 1, 0);
        faulty("modulo 31 1;" + blanks(528), 2, 7);
        faulty("x".repeat(540), 1, 0);
        faulty(blanks(499) + "x".repeat(41), 1, 499);
        faulty(blanks(500) + "x".repeat(40), 1, 500);
    }

    private void wrongNumbers() {
        edges.says("2 a NUMBER that is not as told, of row, equation one that is not below M (at it);");
        for (int m = 2; m <= 30; m++) {
            String line = "modulo " + m + " 3;";
            for (int column = 0; column < 3; column++) {
                wrongNumber(line + "module;row ", m, column, ";");
                wrongNumber(line + "equation ", m, column, " is 0;");
            }
            String ahead = line + "equation 0 0 0 is ";
            fine(ahead + (m - 1) + ";", 2);
            faulty(ahead + m + ";", 2, ahead.length());
            faulty(ahead + "99;", 2, ahead.length());
        }
    }

    private void wrongNumber(String line, int m, int column, String rest) {
        StringBuilder ahead = new StringBuilder(line);
        StringBuilder behind = new StringBuilder();
        for (int j = 0; j < 3; j++) {
            if (j < column) {
                ahead.append("0 ");
            } else if (j > column) {
                behind.append(" 0");
            }
        }
        behind.append(rest);
        fine(ahead + String.valueOf(m - 1) + behind, line.contains("module;") ? 3 : 2);
        faulty(ahead + String.valueOf(m) + behind, 2, ahead.length());
        faulty(ahead + "99" + behind, 2, ahead.length());
    }

    private void tooMany() {
        edges.says("3 a fifth MODULE, a fourth EQUATION (at the WORD).");
        String four = "modulo 5 1;module;module;module;module;";
        String three = "modulo 5 1;equation 1 is 1;equation 1 is 1;equation 1 is 1;";
        fine(four, 5);
        fine(three, 4);
        faulty(four + "module;", 3, 39);
        faulty(four + "  module", 3, 41);
        faulty(three + "equation 1 is 1;", 3, 59);
        faulty(three + "\nequation", 3, 60);
        fine(four + three.substring(11), 8);
        fine(three + four.substring(11), 8);
        faulty(four + three.substring(11) + "module;equation 1 is 1;", 3, 87);
        faulty(four + three.substring(11) + "equation 1 is 1;module;", 3, 87);
    }

    private void text() {
        edges.says("The tape (empty then, even with a FAULT) is a TEXT (an empty one: no M): how many LINES;");
        ModuleRows x = new ModuleRows();
        edges.due("LINES", Check.read(x, "modulo 5 1;module;"), 2);
        edges.due("the tape is empty then", x.now(4), 0);
        edges.due("a FAULT", Check.read(x, "modulo 99 1;"), -8);
        edges.due("the tape is empty even then", x.now(4), 0);
        edges.due("so the next one is an empty TEXT", x.text(), 0);
        edges.due("no M", x.now(0), 0);
        edges.due("WIDTH 0", x.now(1), 0);
        edges.due("no EQUATIONS", x.now(2), 0);
        edges.due("no MODULES", x.many(0), Edges.NONE);
        edges.due("as long as can be", Check.read(x, blanks(540)), -501);
        edges.due("the tape is empty then, too", x.now(4), 0);
        edges.says("-1 less the place of a FAULT: all stays.");
        for (String text : new String[] {"#", "modulo", "modulo 5 1;module;row 9;", "modulo 5 1;equation 1 is 1;x"}) {
            ModuleRows kept = Edges.rich();
            ModuleRows same = Edges.rich();
            Check.read(kept, text);
            same.end(0);
            edges.due("'" + text + "' has a FAULT", kept.fault() > 0, true);
            // both have the same FAULT then, so that only what must stay is compared
            Check.read(kept, "#");
            Check.read(same, "#");
            edges.due("all stays with '" + text + "'", Seen.whole(kept).equals(Seen.whole(same)), true);
        }
    }
}
