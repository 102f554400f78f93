import java.util.ArrayList;
import java.util.List;
import java.util.function.Consumer;
import java.util.function.Function;
import java.util.function.ToIntFunction;

/**
 * "A call that returns an error or NONE changes nothing", and no call that only tells does. A call is made on an
 * object in some standing, and all that can be seen of it behind the call is compared with an object in the same
 * standing without the call. As an object has 512 calls, each look at it has an object of its own.
 */
public final class RefusedTest {
    private static final int MIN = Integer.MIN_VALUE;
    private static final int MAX = Integer.MAX_VALUE;
    private static final int[] NO_LINES = {0, -1, 11, MIN, MAX};

    private final String name;
    private final Consumer<PracticeSheets> standing;
    private final List<Function<PracticeSheets, String>> looks = new ArrayList<>();
    private final List<String> due = new ArrayList<>();

    private RefusedTest(String name, Consumer<PracticeSheets> standing) {
        this.name = name;
        this.standing = standing;
        looks.add(RefusedTest::told);
        looks.add(RefusedTest::toldOfWords);
        looks.add(RefusedTest::toldOfSheets);
        looks.add(RefusedTest::toldOfTheText);
        looks.add(RefusedTest::toldOfTheHistory);
        looks.add(RefusedTest::toldOfTheSnapshot);
        for (Function<PracticeSheets, String> look : looks) {
            due.add(look.apply(made()));
        }
    }

    public static void main(String[] args) {
        RefusedTest made = new RefusedTest("new", x -> { });
        wrongArguments(made);
        refusedWhenNew(made);
        RefusedTest grown = new RefusedTest("grown", RefusedTest::grow);
        wrongArguments(grown);
        refusedWhenGrown(grown);
        tellingChangesNothing(grown);
        RefusedTest full = new RefusedTest("full", RefusedTest::fill);
        wrongArguments(full);
        refusedWhenFull(full);
        tellingChangesNothing(full);
        RefusedTest idle = new RefusedTest("idle", RefusedTest::rest);
        wrongArguments(idle);
        refusedWhenIdle(idle);
        tellingChangesNothing(idle);
        Check.end();
    }

    /** Some words, tries and slips, a snapshot that differs, two states in the history, a text with a fault. */
    private static void grow(PracticeSheets x) {
        Check.write(x, "a!-bc!");
        x.keep();
        Check.add(x, "ab,bc,cde");
        x.undo();
        x.undo();
        Check.write(x, "b!-c!a");
        Check.add(x, "fa,ca,b");
        Check.text(x, "ab-");
    }

    /** 20 words, 999 weeks, four states in the history, and 60 characters, of four words that are new. */
    private static void fill(PracticeSheets x) {
        for (int i = 0; i < 49; i++) {
            x.pass(20);
        }
        x.pass(18);
        Check.write(x, "a!-b!-c");
        x.keep();
        Check.write(x, "d!-c!-c");
        Check.add(x, "a,b,c,d,e,f,aa,bb,cc,dd,ee,ff,ab,bc,cd,de,ef,ac,ca,bd");
        x.pass(1);
        Check.write(x, "f-e");
        Check.text(x, "bcdefabcdefabcd,acdefabcdefabcd,abdefabcdefabcd,abcefabcdefa");
    }

    /** Words that gain nothing, and that are those of the text; the setting is 0. */
    private static void rest(PracticeSheets x) {
        Check.write(x, "abc");
        x.setUntried(0);
        Check.add(x, "ab,bc,f");
    }

    private PracticeSheets made() {
        PracticeSheets x = new PracticeSheets();
        standing.accept(x);
        return x;
    }

    private void answers(String call, int want, ToIntFunction<PracticeSheets> made) {
        Check.due(name + ": " + call, made.applyAsInt(made()), want);
        changesNothing(call, made);
    }

    private void changesNothing(String call, ToIntFunction<PracticeSheets> called) {
        for (int i = 0; i < looks.size(); i++) {
            PracticeSheets x = made();
            called.applyAsInt(x);
            Check.same(name + " behind " + call + ", look " + i, looks.get(i).apply(x), due.get(i));
        }
    }

    private static String told(PracticeSheets x) {
        StringBuilder all = new StringBuilder();
        for (int what = 0; what < 12; what++) {
            all.append(x.count(what)).append(' ');
        }
        for (char one = 'a'; one <= 'f'; one++) {
            all.append(x.letter(one, 0)).append('/').append(x.letter(one, 1)).append(' ');
            for (char other = 'a'; other <= 'f'; other++) {
                all.append(x.join(one, other, 0)).append('/').append(x.join(one, other, 1)).append(' ');
            }
        }
        return all.append(Check.list(x)).toString();
    }

    private static String toldOfWords(PracticeSheets x) {
        StringBuilder all = new StringBuilder();
        for (int word = 0; word < 20; word++) {
            for (int what = 0; what < 5; what++) {
                all.append(x.word(word, what)).append(' ');
            }
        }
        return all.toString();
    }

    private static String toldOfSheets(PracticeSheets x) {
        StringBuilder all = new StringBuilder();
        for (int line = 0; line < 10; line++) {
            all.append(x.sheet(10, line, 0)).append('/').append(x.sheet(10, line, 1)).append(' ');
            all.append(x.worst(false, line)).append('/').append(x.worst(true, line)).append(' ');
        }
        for (int what = 0; what < 5; what++) {
            all.append(x.covers(3, what)).append(' ');
        }
        all.append(x.missing(false)).append('/').append(x.missing(true)).append(' ');
        return all.append(x.sheetsTo(2, 10)).append('/').append(x.sheetsTo(1, 20)).toString();
    }

    /** The text is seen by what it is as a written word, and by the words that an empty list gets from it. */
    private static String toldOfTheText(PracticeSheets x) {
        StringBuilder all = new StringBuilder();
        all.append(x.count(11)).append(' ').append(x.write()).append(' ');
        for (char letter = 'a'; letter <= 'f'; letter++) {
            all.append(x.letter(letter, 0)).append('/').append(x.letter(letter, 1)).append(' ');
        }
        all.append(x.addWords()).append(' ');
        for (int i = 0; i < 20; i++) {
            x.removeWord(0);
        }
        all.append(x.addWords()).append(' ').append(Check.list(x));
        return all.append(' ').append(x.clearText()).toString();
    }

    private static String toldOfTheHistory(PracticeSheets x) {
        StringBuilder all = new StringBuilder();
        for (int i = 0; i < 5; i++) {
            all.append(x.undo()).append(": ");
            for (int what = 0; what < 12; what++) {
                all.append(x.count(what)).append(' ');
            }
            for (char one = 'a'; one <= 'd'; one++) {
                all.append(x.letter(one, 0)).append('/').append(x.letter(one, 1)).append(' ');
                all.append(x.join(one, 'c', 0)).append('/').append(x.join(one, 'c', 1)).append(' ');
            }
        }
        return all.toString();
    }

    private static String toldOfTheSnapshot(PracticeSheets x) {
        return x.restore() + ": " + told(x);
    }

    /** What is wrong however the object stands. */
    private static void wrongArguments(RefusedTest x) {
        for (int weeks : new int[] {0, -1, 21, MIN, MAX}) {
            x.answers("pass(" + weeks + ")", Check.BAD, o -> o.pass(weeks));
        }
        for (int untried : new int[] {-1, 100, MIN, MAX}) {
            x.answers("setUntried(" + untried + ")", Check.BAD, o -> o.setUntried(untried));
        }
        for (int word : new int[] {-1, 20, MIN, MAX}) {
            x.answers("removeWord(" + word + ")", Check.UNKNOWN, o -> o.removeWord(word));
            x.answers("word(" + word + ", 0)", Check.UNKNOWN, o -> o.word(word, 0));
            x.answers("letterOf(" + word + ", 0)", Check.UNKNOWN, o -> o.letterOf(word, 0));
        }
        for (int lines : NO_LINES) {
            x.answers("doSheet(" + lines + ")", Check.BAD, o -> o.doSheet(lines));
            x.answers("sheet(" + lines + ", 0, 0)", Check.BAD, o -> o.sheet(lines, 0, 0));
            x.answers("covers(" + lines + ", 0)", Check.BAD, o -> o.covers(lines, 0));
            x.answers("sheetsTo(" + lines + ", 0)", Check.BAD, o -> o.sheetsTo(lines, 0));
        }
        for (int what : new int[] {-1, 12, MIN, MAX}) {
            x.answers("letter('a', " + what + ")", Check.BAD, o -> o.letter('a', what));
            x.answers("join('a', 'b', " + what + ")", Check.BAD, o -> o.join('a', 'b', what));
            x.answers("sheet(1, 0, " + what + ")", Check.BAD, o -> o.sheet(1, 0, what));
            x.answers("covers(1, " + what + ")", Check.BAD, o -> o.covers(1, what));
            x.answers("count(" + what + ")", Check.BAD, o -> o.count(what));
        }
        x.answers("letter('A', 0)", Check.UNKNOWN, o -> o.letter('A', 0));
        x.answers("join('a', '{', 0)", Check.UNKNOWN, o -> o.join('a', '{', 0));
        x.answers("join('`', 'a', 0)", Check.UNKNOWN, o -> o.join('`', 'a', 0));
        x.answers("worst(false, -1)", Check.BAD, o -> o.worst(false, -1));
        x.answers("worst(true, MIN)", Check.BAD, o -> o.worst(true, MIN));
        x.answers("worst(true, MAX)", Check.NONE, o -> o.worst(true, MAX));
        x.answers("sheetsTo(1, -1)", Check.BAD, o -> o.sheetsTo(1, -1));
        x.answers("sheetsTo(1, 100)", Check.BAD, o -> o.sheetsTo(1, 100));
        x.answers("sheet(10, -1, 0)", Check.BAD, o -> o.sheet(10, -1, 0));
        x.answers("sheet(10, 10, 0)", Check.NONE, o -> o.sheet(10, 10, 0));
        x.answers("sheet(10, MAX, 1)", Check.NONE, o -> o.sheet(10, MAX, 1));
    }

    private static void refusedWhenNew(RefusedTest x) {
        x.answers("write()", -100, PracticeSheets::write);
        x.answers("addWords()", -100, PracticeSheets::addWords);
        x.answers("setUntried(5)", Check.NONE, o -> o.setUntried(5));
        x.answers("removeWord(0)", Check.UNKNOWN, o -> o.removeWord(0));
        x.answers("doSheet(1)", Check.NONE, o -> o.doSheet(1));
        x.answers("doSheet(10)", Check.NONE, o -> o.doSheet(10));
        x.answers("undo()", Check.NONE, PracticeSheets::undo);
        x.answers("restore()", Check.NONE, PracticeSheets::restore);
        x.answers("clearText()", 0, PracticeSheets::clearText);
        x.answers("word(0, 0)", Check.UNKNOWN, o -> o.word(0, 0));
        x.answers("letterOf(0, 0)", Check.UNKNOWN, o -> o.letterOf(0, 0));
        x.answers("sheet(1, 0, 0)", Check.NONE, o -> o.sheet(1, 0, 0));
        x.answers("worst(false, 0)", Check.NONE, o -> o.worst(false, 0));
    }

    private static void refusedWhenGrown(RefusedTest x) {
        x.answers("write()", -103, PracticeSheets::write);
        x.answers("addWords()", -102, PracticeSheets::addWords);
        x.answers("setUntried(5)", Check.NONE, o -> o.setUntried(5));
        x.answers("removeWord(3)", Check.UNKNOWN, o -> o.removeWord(3));
        x.answers("word(3, 0)", Check.UNKNOWN, o -> o.word(3, 0));
        x.answers("letterOf(0, 2)", Check.NONE, o -> o.letterOf(0, 2));
        x.answers("letterOf(0, -1)", Check.BAD, o -> o.letterOf(0, -1));
        x.answers("word(0, 5)", Check.BAD, o -> o.word(0, 5));
    }

    private static void refusedWhenFull(RefusedTest x) {
        x.answers("count(0)", 20, o -> o.count(0));
        x.answers("count(1)", 999, o -> o.count(1));
        x.answers("count(10)", 4, o -> o.count(10));
        x.answers("count(11)", 60, o -> o.count(11));
        x.answers("write()", -115, PracticeSheets::write);
        x.answers("addWords()", Check.FULL, PracticeSheets::addWords);
        x.answers("pass(1)", Check.FULL, o -> o.pass(1));
        x.answers("pass(20)", Check.FULL, o -> o.pass(20));
        x.answers("type('a')", Check.FULL, o -> o.type('a'));
        x.answers("type(0)", Check.FULL, o -> o.type((char) 0));
        x.answers("setUntried(5)", Check.NONE, o -> o.setUntried(5));
    }

    private static void refusedWhenIdle(RefusedTest x) {
        x.answers("addWords()", Check.NONE, PracticeSheets::addWords);
        x.answers("setUntried(0)", Check.NONE, o -> o.setUntried(0));
        x.answers("write()", -102, PracticeSheets::write);
        x.answers("doSheet(1)", Check.NONE, o -> o.doSheet(1));
        x.answers("doSheet(10)", Check.NONE, o -> o.doSheet(10));
        x.answers("restore()", Check.NONE, PracticeSheets::restore);
        x.answers("sheet(1, 0, 0)", Check.NONE, o -> o.sheet(1, 0, 0));
        x.answers("worst(false, 0)", Check.NONE, o -> o.worst(false, 0));
    }

    private static void tellingChangesNothing(RefusedTest x) {
        x.changesNothing("letter", o -> o.letter('a', 2) + o.letter('f', 3));
        x.changesNothing("join", o -> o.join('a', 'b', 2) + o.join('f', 'f', 3));
        x.changesNothing("word", o -> o.word(0, 0) + o.word(1, 1) + o.word(1, 2) + o.word(0, 3) + o.word(1, 4));
        x.changesNothing("letterOf", o -> o.letterOf(0, 0) + o.letterOf(1, 1));
        x.changesNothing("sheet", o -> o.sheet(10, 0, 0) + o.sheet(1, 0, 1));
        x.changesNothing("covers", o -> o.covers(10, 0) + o.covers(3, 3) + o.covers(1, 4));
        x.changesNothing("worst", o -> o.worst(true, 0) + o.worst(false, 1));
        x.changesNothing("missing", o -> o.missing(true) + o.missing(false));
        x.changesNothing("sheetsTo", o -> o.sheetsTo(1, 0) + o.sheetsTo(10, 30) + o.sheetsTo(2, 99));
        x.changesNothing("count", o -> o.count(0) + o.count(3) + o.count(6) + o.count(9));
    }
}
