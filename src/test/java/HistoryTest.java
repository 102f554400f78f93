/** Promises 10 to 12: undo, the snapshot, and what a state is. */
public final class HistoryTest {
    public static void main(String[] args) {
        undoOfEachAct();
        onlyFourStates();
        statesHoldAll();
        snapshots();
        snapshotAndHistory();
        whatIsNoAct();
        anEmptySnapshotIsOne();
        Check.end();
    }

    /** All that is told of a state, in one text. */
    private static String told(PracticeSheets x) {
        StringBuilder all = new StringBuilder(Check.list(x));
        for (int what = 0; what < 10; what++) {
            all.append(' ').append(x.count(what));
        }
        for (char one = 'a'; one <= 'e'; one++) {
            all.append(' ').append(x.letter(one, 0)).append('/').append(x.letter(one, 1));
            for (char other = 'a'; other <= 'e'; other++) {
                all.append(' ').append(x.join(one, other, 0)).append('/').append(x.join(one, other, 1));
            }
        }
        return all.toString();
    }

    private static int act(PracticeSheets x, int number) {
        switch (number) {
            case 0:
                return Check.write(x, "a!-bc");
            case 1:
                return Check.add(x, "ab,bc,cd");
            case 2:
                return x.setUntried(9);
            case 3:
                return x.doSheet(2);
            case 4:
                return x.removeWord(0);
            case 5:
                return x.pass(1);
            default:
                return x.restore();
        }
    }

    /** "Each call of a method that is described as an act .. records the state that was before it." */
    private static void undoOfEachAct() {
        PracticeSheets x = new PracticeSheets();
        x.keep();
        String[] states = new String[8];
        for (int i = 0; i < 7; i++) {
            states[i] = told(x);
            Check.due("act " + i, act(x, i) >= 0);
            Check.due("states", x.count(10), Math.min(i + 1, 4));
            String after = told(x);
            Check.due("act " + i + " changes something", !after.equals(states[i]));
            Check.due("undo", x.undo(), Math.min(i, 3));
            Check.same("undone " + i, told(x), states[i]);
            act(x, i);
            Check.same("done again " + i, told(x), after);
        }
        for (int i = 6; i >= 4; i--) {
            x.undo();
            Check.same("undone " + i, told(x), states[i]);
        }
    }

    /** "A history of at most 4 states is kept; when one more is recorded, the oldest one is dropped". */
    private static void onlyFourStates() {
        PracticeSheets x = new PracticeSheets();
        for (int i = 10; i < 20; i++) {
            x.setUntried(i);
            Check.due("states", x.count(10), Math.min(i - 9, 4));
        }
        for (int left = 3; left >= 0; left--) {
            Check.due("undo", x.undo(), left);
            Check.due("setting", x.count(2), 15 + left);
        }
        Check.due("undo of none", x.undo(), Check.NONE);
        Check.due("setting", x.count(2), 15);
        x.setUntried(1);
        Check.due("states again", x.undo(), 0);
        Check.due("setting", x.count(2), 15);
    }

    /** "A state is everything but the text, ..". */
    private static void statesHoldAll() {
        PracticeSheets x = new PracticeSheets();
        Check.write(x, "a");
        Check.text(x, "bcd");
        Check.due("undo", x.undo(), 0);
        Check.due("the text is not of the state", x.count(11), 3);
        Check.due("it is written", x.write(), 0);
        Check.due("d tries", x.letter('d', 0), 1);
        Check.due("a tries", x.letter('a', 0), 0);
    }

    /** "There is one snapshot, empty at first." */
    private static void snapshots() {
        PracticeSheets x = new PracticeSheets();
        Check.due("no snapshot", x.restore(), Check.NONE);
        Check.due("NONE is not recorded", x.count(10), 0);
        Check.due("keep of an empty list", x.keep(), 0);
        Check.add(x, "ab,b");
        Check.write(x, "a!b");
        String second = told(x);
        Check.due("keep", x.keep(), 2);
        Check.due("keep is no act", x.count(10), 2);
        x.removeWord(0);
        x.pass(3);
        Check.text(x, "xyz");
        Check.due("restore", x.restore(), 2);
        Check.same("restored", told(x), second);
        Check.due("the text stays", x.count(11), 3);
        Check.due("restore is an act", x.count(10), 4);
        x.removeWord(1);
        Check.due("the snapshot stays", x.restore(), 2);
        Check.same("restored", told(x), second);
        Check.due("without a change it is an act, too", x.restore(), 2);
        Check.due("states", x.count(10), 4);
    }

    /** "A state is everything but .. the history and the snapshot." */
    private static void snapshotAndHistory() {
        PracticeSheets x = new PracticeSheets();
        x.setUntried(1);
        x.keep();
        x.setUntried(2);
        Check.due("restore", x.restore(), 0);
        Check.due("setting", x.count(2), 1);
        Check.due("undo of restore", x.undo(), 2);
        Check.due("setting", x.count(2), 2);
        x.undo();
        x.undo();
        Check.due("setting", x.count(2), 5);
        Check.due("the snapshot is no part of a state", x.restore(), 0);
        Check.due("setting", x.count(2), 1);
        Check.due("the history is no part of the snapshot", x.count(10), 1);
        x.undo();
        x.keep();
        x.setUntried(3);
        x.restore();
        Check.due("a new snapshot is in place of the old one", x.count(2), 5);
    }

    /** What is not described as an act records nothing, in an empty history, among states, and in a full one. */
    private static void whatIsNoAct() {
        PracticeSheets x = new PracticeSheets();
        for (int states = 0; states <= 4; states++) {
            Check.due("states", x.count(10), states);
            Check.due("type", x.type('a') > 0);
            Check.due("clearText", x.clearText(), 1);
            Check.due("keep", x.keep(), 0);
            x.sheetsTo(10, 0);
            x.covers(10, 3);
            Check.due("states still", x.count(10), states);
            x.setUntried(10 + states);
        }
        Check.due("states", x.count(10), 4);
        Check.due("undo", x.undo(), 3);
        Check.due("setting", x.count(2), 13);
        Check.due("undo is not undone", x.undo(), 2);
        Check.due("setting", x.count(2), 12);
        Check.due("undo leaves the last snapshot", x.restore(), 0);
        Check.due("setting", x.count(2), 13);
    }

    /** A snapshot of a new object is one, and brings all of it back. */
    private static void anEmptySnapshotIsOne() {
        PracticeSheets x = new PracticeSheets();
        String first = told(x);
        Check.due("keep", x.keep(), 0);
        for (int i = 0; i < 6; i++) {
            act(x, i);
        }
        Check.due("restore", x.restore(), 0);
        Check.same("all is as at first", told(x), first);
        Check.due("but for the history", x.count(10), 4);
        Check.due("and the text", x.count(11), 8);
        for (int left = 3; left >= 0; left--) {
            Check.due("undo", x.undo(), left);
        }
        Check.due("restore, once more", x.restore(), 0);
        Check.same("all is as at first", told(x), first);
    }
}
