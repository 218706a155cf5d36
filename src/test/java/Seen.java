/** What the calls tell of an object, as one text: two objects of the same text can't be told apart by them. */
final class Seen {
    private Seen() {
    }

    /** M, WIDTH, FORMS and EQUATIONS. */
    static String told(ModuleRows x) {
        StringBuilder all = new StringBuilder();
        for (int what = 0; what < 3; what++) {
            all.append(x.now(what)).append(' ');
        }
        for (int place = 0; place < 4; place++) {
            for (int column = 0; column < 3; column++) {
                all.append(x.form(place, column)).append(' ');
            }
        }
        for (int i = 0; i < 3; i++) {
            for (int what = 0; what < 4; what++) {
                all.append(x.equation(i, what)).append(' ');
            }
        }
        return all.toString();
    }

    /** What is told, and what stands beside it: acts, the tape's bytes, the FAULT. */
    static String now(ModuleRows x) {
        return told(x) + "acts " + x.now(3) + " bytes " + x.now(4) + " fault " + x.fault();
    }

    /** All that can be found out: what each undo() brings, both images, what is on the tape. The object is used up. */
    static String whole(ModuleRows x) {
        StringBuilder all = new StringBuilder(now(x));
        for (int left = x.undo(); left >= 0; left = x.undo()) {
            all.append("\nundone, left ").append(left).append(": ").append(told(x));
        }
        for (int k = 0; k < 2; k++) {
            all.append("\nimage ").append(k).append(' ').append(x.restore(k)).append(": ").append(told(x));
        }
        return all.append("\ntext ").append(x.text()).append(": ").append(now(x)).toString();
    }
}
