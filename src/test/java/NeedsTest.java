/** Promises 19, 20 and 22: the worst letters and joins, those that no word has, and counts. */
public final class NeedsTest {
    public static void main(String[] args) {
        worst();
        worstOfAll();
        missing();
        counts();
        firstJoinIsNoLetter();
        needOfOne();
        Check.end();
    }

    private static void worst() {
        PracticeSheets x = new PracticeSheets();
        Check.write(x, "ab!cy-zy!-z!");
        Check.write(x, "a!-z!");
        // letters: a 1 of 2, 25; b 33; y 25; z 2 of 3, 40; joins: yz 2 of 2, 50; az 33
        int[] letters = {25, 1, 0, 24};
        for (int rank = 0; rank < letters.length; rank++) {
            Check.due("letter of rank " + rank, x.worst(false, rank), letters[rank]);
        }
        Check.due("those with a need of 0 are left out", x.worst(false, 4), Check.NONE);
        Check.due("join of rank 0", x.worst(true, 0), 26 * 24 + 25);
        Check.due("join of rank 1", x.worst(true, 1), 25);
        Check.due("join of rank 2", x.worst(true, 2), Check.NONE);
        Check.due("rank -1", x.worst(true, -1), Check.BAD);
        Check.due("rank min", x.worst(false, Integer.MIN_VALUE), Check.BAD);
        Check.due("rank max", x.worst(false, Integer.MAX_VALUE), Check.NONE);
        PracticeSheets y = new PracticeSheets();
        Check.due("none", y.worst(false, 0), Check.NONE);
        Check.write(y, "z-z-z");
        Check.due("the last join", y.worst(true, 0), 675);
        Check.due("no letter", y.worst(false, 0), Check.NONE);
        y.pass(1);
        Check.due("1 of 1 is left", y.worst(true, 0), 675);
        y.pass(1);
        Check.due("none is left", y.worst(true, 0), Check.NONE);
    }

    private static void worstOfAll() {
        PracticeSheets x = new PracticeSheets();
        Check.write(x, "z!y!x!w!v!u!t!s!r!q!p!o!n!");
        Check.write(x, "m!l!k!j!i!h!g!f!e!d!c!b!a!");
        for (int rank = 0; rank < 26; rank++) {
            Check.due("letter of rank " + rank, x.worst(false, rank), rank);
        }
        Check.due("letter of rank 26", x.worst(false, 26), Check.NONE);
        Check.text(x, "z!z!z!z!z!z!z!z!z!z!z!z!z!z!z!");
        for (int i = 0; i < 30; i++) {
            x.write();
        }
        Check.due("a need of 99", x.letter('z', 2), 99);
        Check.due("is the worst", x.worst(false, 0), 25);
        Check.due("then the first", x.worst(false, 1), 0);
    }

    private static void missing() {
        PracticeSheets x = new PracticeSheets();
        Check.due("letters", x.missing(false), 0);
        Check.write(x, "a!-b!-cd!");
        Check.due("letters", x.missing(false), 3);
        Check.due("joins", x.missing(true), 2);
        Check.add(x, "a,cb");
        Check.due("letters without a and b", x.missing(false), 1);
        Check.due("joins still", x.missing(true), 2);
        Check.add(x, "xbcx");
        Check.due("joins without bc", x.missing(true), 1);
        x.removeWord(0);
        Check.due("letters without b", x.missing(false), 2);
        Check.due("is no act", x.count(10), 4);
        PracticeSheets y = new PracticeSheets();
        Check.write(y, "z-z!");
        Check.due("the last letter", y.missing(false), 1);
        Check.due("the last join", y.missing(true), 1);
    }

    private static void counts() {
        PracticeSheets x = new PracticeSheets();
        Check.write(x, "a!-b!-b");
        Check.write(x, "b-b");
        Check.add(x, "ab,c");
        x.setUntried(6);
        Check.text(x, "hello");
        // a 1 of 1, 33; b 1 of 4, 16; ab 1 of 1, 33; bb 2 of 2, 50
        int[] before = {2, 0, 6, 24, 2, 33, 50, 2, 5, 0, 4, 5};
        for (int what = 0; what < before.length; what++) {
            Check.due("count(" + what + ")", x.count(what), before[what]);
        }
        x.doSheet(2);
        x.pass(1);
        // before the week: a 2, b 5, c 1, ab 2, bb 2 tries
        int[] after = {2, 1, 6, 24, 2, 0, 33, 4, 5, 1, 4, 5};
        for (int what = 0; what < after.length; what++) {
            Check.due("count(" + what + ") behind a week", x.count(what), after[what]);
        }
        int[] wrong = {-1, 12, Integer.MAX_VALUE, Integer.MIN_VALUE};
        for (int what : wrong) {
            Check.due("count(" + what + ")", x.count(what), Check.BAD);
        }
    }

    /** The join aa, whose number is the first one, is next to the letter z inside. */
    private static void firstJoinIsNoLetter() {
        PracticeSheets x = new PracticeSheets();
        Check.write(x, "a-a");
        Check.due("aa", x.join('a', 'a', 2), 33);
        Check.due("no letter is missing", x.missing(false), 0);
        Check.due("aa is missing", x.missing(true), 1);
        Check.due("no letter is worst", x.worst(false, 0), Check.NONE);
        Check.due("aa is worst", x.worst(true, 0), 0);
        Check.due("letters that are untried", x.count(3), 25);
        Check.due("joins that have tries", x.count(4), 1);
        Check.due("greatest need of a letter", x.count(5), 0);
        Check.due("greatest need of a join", x.count(6), 33);
        Check.write(x, "z!a!z");
        // a 1 of 3, 20; z 1 of 2, 25
        Check.due("z is a letter", x.worst(false, 0), 25);
        Check.due("then a", x.worst(false, 1), 0);
        Check.due("no more", x.worst(false, 2), Check.NONE);
        Check.due("aa alone", x.worst(true, 1), Check.NONE);
    }

    private static void needOfOne() {
        PracticeSheets x = new PracticeSheets();
        Check.write(x, "c!ccccccccccccc-c");
        Check.text(x, "ccccccccccccccc");
        for (int i = 0; i < 5; i++) {
            x.write();
        }
        Check.due("100 / 92", x.letter('c', 2), 1);
        Check.due("100 / 86", x.join('c', 'c', 2), 1);
        Check.due("is missing", x.missing(false), 1);
        Check.due("is missing", x.missing(true), 1);
        Check.due("is told as the worst", x.worst(false, 0), 2);
        Check.due("is told as the worst", x.worst(true, 0), 54);
        Check.due("is the greatest", x.count(5), 1);
        Check.due("is the greatest", x.count(6), 1);
        x.write();
        Check.due("100 / 107", x.letter('c', 2), 0);
        Check.due("is not missing", x.missing(false), 0);
        Check.due("is not told", x.worst(false, 0), Check.NONE);
        Check.due("100 / 100", x.join('c', 'c', 2), 1);
    }
}
