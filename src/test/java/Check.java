/** Counts the answers that are not due, for the tests of this project. */
final class Check {
    private int wrong;
    private int asked;

    void due(String what, long got, long want) {
        asked++;
        if (got != want) {
            wrong++;
            System.out.println(what + " answered " + got + ", due is " + want);
        }
    }

    /** Appends each sign of a text; the last length must be the text's new one. */
    void write(VacantAir book, String text) {
        int before = book.total(12);
        for (int i = 0; i < text.length(); i++) {
            due("append " + text.charAt(i), book.append(text.charAt(i)), before + i + 1);
        }
    }

    void end() {
        System.out.println(asked + " answers, " + wrong + " of them not as due");
        if (wrong != 0) {
            System.exit(1);
        }
    }
}
