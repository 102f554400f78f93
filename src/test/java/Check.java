/** Compares answers with those that are due, and ends the program with 1 if one was not. */
final class Check {
    static final int UNKNOWN = -1;
    static final int BAD = -2;
    static final int FULL = -3;
    static final int NONE = -5;

    private static int wrong = 0;

    private Check() {
    }

    static void due(String call, long got, long want) {
        if (got != want) {
            wrong++;
            System.out.println(call + " answered " + got + ", due is " + want);
        }
    }

    static void due(String what, boolean holds) {
        if (!holds) {
            wrong++;
            System.out.println("does not hold: " + what);
        }
    }

    /** Puts a text in the place of the one that stands. */
    static void text(PracticeSheets sheets, String text) {
        sheets.clearText();
        for (int i = 0; i < text.length(); i++) {
            sheets.type(text.charAt(i));
        }
    }

    static int write(PracticeSheets sheets, String text) {
        text(sheets, text);
        return sheets.write();
    }

    static int add(PracticeSheets sheets, String text) {
        text(sheets, text);
        return sheets.addWords();
    }

    /** The word of a number, read letter by letter. */
    static String spelled(PracticeSheets sheets, int word) {
        StringBuilder letters = new StringBuilder();
        for (int i = 0; i < 16 && sheets.letterOf(word, i) >= 0; i++) {
            letters.append((char) ('a' + sheets.letterOf(word, i)));
        }
        return letters.toString();
    }

    /** The words on the list, with a blank between two. */
    static String list(PracticeSheets sheets) {
        StringBuilder words = new StringBuilder();
        for (int i = 0; i < sheets.count(0); i++) {
            words.append(i == 0 ? "" : " ").append(spelled(sheets, i));
        }
        return words.toString();
    }

    static void same(String what, String got, String want) {
        if (!got.equals(want)) {
            wrong++;
            System.out.println(what + " is \"" + got + "\", due is \"" + want + "\"");
        }
    }

    static void end() {
        System.out.println(wrong == 0 ? "all answers are as due" : wrong + " answers are not as due");
        if (wrong != 0) {
            System.exit(1);
        }
    }
}
