/**
 * "No call may ever throw or fail to end, for any arguments in any state" (LANGUAGE.md): calls with wild arguments
 * on one object, far behind the 512 calls whose answers are promised. Only what holds of every answer is looked at.
 */
public final class WildTest {
    private static final int CALLS = 200_000;
    private static final int[] EDGES = {Integer.MIN_VALUE, Integer.MIN_VALUE + 1, -702, -101, -6, -5, -4, -3, -2, -1,
        25, 26, 27, 59, 60, 61, 98, 99, 100, 101, 675, 676, 677, 701, 702, 999, 1000, 9999, Integer.MAX_VALUE - 999,
        Integer.MAX_VALUE - 1, Integer.MAX_VALUE};

    private final PracticeSheets x = new PracticeSheets();
    private long seed;

    private WildTest(long seed) {
        this.seed = seed;
    }

    public static void main(String[] args) {
        for (int run = 1; run <= 5; run++) {
            new WildTest(run).run();
        }
        Check.end();
    }

    /** A number from 0 to ahead of the bound, from a fixed row of numbers. */
    private int pick(int bound) {
        seed = seed * 6364136223846793005L + 1442695040888963407L;
        return (int) ((seed >>> 33) % bound);
    }

    private int number() {
        return pick(4) == 0 ? EDGES[pick(EDGES.length)] : pick(23) - 1;
    }

    private char sign() {
        return pick(12) == 0 ? (char) pick(65536) : "abcz!-,".charAt(pick(7));
    }

    private void run() {
        for (int i = 0; i < CALLS; i++) {
            within("act", act(), -160, 65536);
            if (i % 8 == 0) {
                within("telling", tell(), -5, 65536);
            }
            if (i % 64 == 0) {
                bounds();
            }
        }
    }

    private static void within(String what, int answer, int least, int most) {
        if (answer < least || answer > most) {
            Check.due(what + " within " + least + " and " + most, answer, least);
        }
    }

    private int act() {
        switch (pick(40)) {
            case 0: case 1: case 2: case 3: case 4: case 5:
                return x.write();
            case 6:
                return x.pass(number());
            case 7:
                return x.setUntried(number());
            case 8: case 9: case 10:
                return x.addWords();
            case 11:
                return x.removeWord(number());
            case 12: case 13:
                return x.doSheet(number());
            case 14: case 15: case 16:
                return x.clearText();
            case 17:
                return x.undo();
            case 18:
                return pick(30) == 0 ? x.keep() : x.count(0);
            case 19:
                return pick(4) == 0 ? x.restore() : x.count(0);
            default:
                return x.type(sign());
        }
    }

    private int tell() {
        switch (pick(10)) {
            case 0:
                return x.letter(sign(), number());
            case 1:
                return x.join(sign(), sign(), number());
            case 2:
                return x.word(number(), number());
            case 3:
                return x.letterOf(number(), number());
            case 4:
                return x.sheet(number(), number(), pick(3) == 0 ? number() : pick(2));
            case 5:
                return x.covers(number(), number());
            case 6:
                return x.worst(pick(2) == 0, number());
            case 7:
                return x.missing(pick(2) == 0);
            case 8:
                return x.sheetsTo(number(), number());
            default:
                return pick(2) == 0 ? x.count(number()) : x.word(pick(20), pick(5));
        }
    }

    private void bounds() {
        int[] most = {20, 999, 99, 26, 676, 99, 99};
        for (int what = 0; what < most.length; what++) {
            within("count(" + what + ")", x.count(what), 0, most[what]);
        }
        within("count(10)", x.count(10), 0, 4);
        within("count(11)", x.count(11), 0, 60);
        for (char letter : new char[] {'a', 'b', 'c', 'z'}) {
            within("tries", x.letter(letter, 0), 0, 9999);
            within("slips", x.letter(letter, 1), 0, x.letter(letter, 0));
            within("tries of a join", x.join(letter, 'a', 0), 0, 9999);
            within("slips of a join", x.join(letter, 'a', 1), 0, x.join(letter, 'a', 0));
        }
    }
}
