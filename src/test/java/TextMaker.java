import java.util.Random;

/** Makes texts at random: good ones, and good ones with some signs or LINES made wrong. */
final class TextMaker {
    private static final String SIGNS = "abcdefghilmoqrstuw0123456789; \n\t-_AZ\u0000\u00e9;;1234 ";

    private TextMaker() {
    }

    static String make(Random random, int mostModulus) {
        StringBuilder text = new StringBuilder(goodText(random, mostModulus));
        if (random.nextInt(25) == 0) {
            return random.nextBoolean() ? "" : "\n ";
        }
        if (random.nextInt(3) == 0) {
            for (int changes = 1 + random.nextInt(2); changes > 0; changes--) {
                spoil(random, text);
            }
        }
        if (random.nextInt(6) == 0) {
            stretch(random, text);
        }
        return text.length() > 540 ? text.substring(0, 540) : text.toString();
    }

    private static String goodText(Random random, int mostModulus) {
        int m = 2 + random.nextInt(mostModulus - 1);
        int width = 1 + random.nextInt(3);
        StringBuilder text = new StringBuilder();
        text.append(blanks(random, 0)).append("modulo").append(blanks(random, 1)).append(m);
        text.append(blanks(random, 1)).append(width).append(blanks(random, 0)).append(';');
        int modules = 0;
        int equations = 0;
        for (int lines = random.nextInt(14); lines > 0; lines--) {
            text.append(blanks(random, 0));
            int kind = random.nextInt(7);
            if (kind < 2 && (modules < 4 || random.nextInt(4) == 0)) {
                text.append("module");
                modules++;
            } else if (kind < 5 && (modules > 0 || random.nextInt(6) == 0)) {
                text.append("row");
                numbers(random, text, m, width);
            } else if (equations < 3 || random.nextInt(4) == 0) {
                text.append("equation");
                numbers(random, text, m, width);
                text.append(blanks(random, 1)).append("is");
                numbers(random, text, m, 1);
                equations++;
            } else {
                continue;
            }
            text.append(blanks(random, 0)).append(';');
        }
        return text.append(blanks(random, 0)).toString();
    }

    private static void numbers(Random random, StringBuilder text, int m, int count) {
        for (int i = 0; i < count; i++) {
            int number = random.nextInt(80) == 0 ? m : random.nextInt(m);
            text.append(blanks(random, 1)).append(number < 10 && random.nextInt(8) == 0 ? "0" : "").append(number);
        }
    }

    private static String blanks(Random random, int least) {
        StringBuilder blanks = new StringBuilder();
        int count = random.nextInt(5) == 0 ? least + random.nextInt(3) : least;
        for (int i = 0; i < count; i++) {
            blanks.append(random.nextInt(4) == 0 ? '\n' : ' ');
        }
        return blanks.toString();
    }

    private static void spoil(Random random, StringBuilder text) {
        int at = random.nextInt(text.length());
        char sign = SIGNS.charAt(random.nextInt(SIGNS.length()));
        switch (random.nextInt(3)) {
            case 0:
                text.setCharAt(at, sign);
                break;
            case 1:
                text.insert(at, sign);
                break;
            default:
                if (text.length() > 1) {
                    text.deleteCharAt(at);
                }
                break;
        }
    }

    /** Blanks ahead, so that the TEXT ends near its 500th byte. */
    private static void stretch(Random random, StringBuilder text) {
        int wanted = 490 + random.nextInt(45);
        int at = random.nextBoolean() ? 0 : text.length();
        StringBuilder blanks = new StringBuilder();
        while (text.length() + blanks.length() < wanted) {
            blanks.append(' ');
        }
        text.insert(at, blanks);
    }
}
