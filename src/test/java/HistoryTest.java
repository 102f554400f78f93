/** Promises 10 to 12: undo, the snapshot, and what a state is. */
public final class HistoryTest {
    public static void main(String[] args) {
        undoOfEachAct();
        onlyFourStates();
        statesHoldAll();
        snapshots();
        snapshotAndHistory();
        Check.end();
    }

    /** All that is told of a state, in one text. */
    private static String told(PracticeSheets x) {
        StringBuilder all = new StringBuilder(Check.list(x));
        for (int what = 0; what < 10; what++) {
            all.append(' ').append(x.count(what));
        }
        for (char one = 'a'; one <= 'e'; one++) {
            all.append(' ').append(x.letter(one, 0)).append('/').append(x.letter(one, 1));
            for (char other = 'a'; other <= 'e'; other++) {
                all.append(' ').append(x.join(one, other, 0)).append('/').append(x.join(one, other, 1));
            }
        }
        return all.toString();
    }

    private static int act(PracticeSheets x, int number) {
        switch (number) {
            case 0:
                return Check.write(x, "a!-bc");
            case 1:
                return Check.add(x, "ab,bc,cd");
            case 2:
                return x.setUntried(9);
            case 3:
                return x.doSheet(2);
            case 4:
                return x.removeWord(0);
            case 5:
                return x.pass(1);
            default:
                return x.restore();
        }
    }

    private static void undoOfEachAct() {
        PracticeSheets x = new PracticeSheets();
        x.keep();
        String[] states = new String[8];
        for (int i = 0; i < 7; i++) {
            states[i] = told(x);
            Check.due("act " + i, act(x, i) >= 0);
            Check.due("states", x.count(10), Math.min(i + 1, 4));
            String after = told(x);
            Check.due("act " + i + " changes something", !after.equals(states[i]));
            Check.due("undo", x.undo(), Math.min(i, 3));
            Check.same("undone " + i, told(x), states[i]);
            act(x, i);
            Check.same("done again " + i, told(x), after);
        }
        for (int i = 6; i >= 4; i--) {
            x.undo();
            Check.same("undone " + i, told(x), states[i]);
        }
    }

    private static void onlyFourStates() {
        PracticeSheets x = new PracticeSheets();
        for (int i = 10; i < 20; i++) {
            x.setUntried(i);
            Check.due("states", x.count(10), Math.min(i - 9, 4));
        }
        for (int left = 3; left >= 0; left--) {
            Check.due("undo", x.undo(), left);
            Check.due("setting", x.count(2), 15 + left);
        }
        Check.due("undo of none", x.undo(), Check.NONE);
        Check.due("setting", x.count(2), 15);
        x.setUntried(1);
        Check.due("states again", x.undo(), 0);
        Check.due("setting", x.count(2), 15);
    }

    private static void statesHoldAll() {
        PracticeSheets x = new PracticeSheets();
        Check.write(x, "a");
        Check.text(x, "bcd");
        Check.due("undo", x.undo(), 0);
        Check.due("the text is not of the state", x.count(11), 3);
        Check.due("it is written", x.write(), 0);
        Check.due("d tries", x.letter('d', 0), 1);
        Check.due("a tries", x.letter('a', 0), 0);
    }

    private static void snapshots() {
        PracticeSheets x = new PracticeSheets();
        Check.due("no snapshot", x.restore(), Check.NONE);
        Check.due("NONE is not recorded", x.count(10), 0);
        Check.due("keep of an empty list", x.keep(), 0);
        Check.add(x, "ab,b");
        Check.write(x, "a!b");
        String second = told(x);
        Check.due("keep", x.keep(), 2);
        Check.due("keep is no act", x.count(10), 2);
        x.removeWord(0);
        x.pass(3);
        Check.text(x, "xyz");
        Check.due("restore", x.restore(), 2);
        Check.same("restored", told(x), second);
        Check.due("the text stays", x.count(11), 3);
        Check.due("restore is an act", x.count(10), 4);
        x.removeWord(1);
        Check.due("the snapshot stays", x.restore(), 2);
        Check.same("restored", told(x), second);
        Check.due("without a change it is an act, too", x.restore(), 2);
        Check.due("states", x.count(10), 4);
    }

    private static void snapshotAndHistory() {
        PracticeSheets x = new PracticeSheets();
        x.setUntried(1);
        x.keep();
        x.setUntried(2);
        Check.due("restore", x.restore(), 0);
        Check.due("setting", x.count(2), 1);
        Check.due("undo of restore", x.undo(), 2);
        Check.due("setting", x.count(2), 2);
        x.undo();
        x.undo();
        Check.due("setting", x.count(2), 5);
        Check.due("the snapshot is no part of a state", x.restore(), 0);
        Check.due("setting", x.count(2), 1);
        Check.due("the history is no part of the snapshot", x.count(10), 1);
        x.undo();
        x.keep();
        x.setUntried(3);
        x.restore();
        Check.due("a new snapshot is in place of the old one", x.count(2), 5);
    }
}
