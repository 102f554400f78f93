/** Promises 1 to 4, 8, 9, 13 and 14: a new object, writing, weeks, the setting, the text, letters and joins. */
public final class WritingTest {
    private static final String ALL_MARKED = "a!-a!-a!-a!-a!-a!-a!-a!-a!-a!-a!-a!-a!-a!-a!";

    public static void main(String[] args) {
        newObject();
        writing();
        faultsOfWriting();
        triesGrowToTheirMost();
        weeksPass();
        weeksAreFull();
        setting();
        typing();
        letters();
        joins();
        Check.end();
    }

    private static void newObject() {
        PracticeSheets x = new PracticeSheets();
        int[] counts = {0, 0, 5, 26, 0, 0, 0, 0, 0, 0, 0, 0};
        for (int what = 0; what < counts.length; what++) {
            Check.due("new: count(" + what + ")", x.count(what), counts[what]);
        }
        for (char one = 'a'; one <= 'z'; one++) {
            for (int what = 0; what < 4; what++) {
                Check.due("new: letter", x.letter(one, what), 0);
                Check.due("new: join", x.join(one, 'q', what), 0);
            }
        }
        Check.due("new: undo", x.undo(), Check.NONE);
        Check.due("new: restore", x.restore(), Check.NONE);
        Check.due("new: word", x.word(0, 0), Check.UNKNOWN);
        Check.due("new: worst", x.worst(true, 0), Check.NONE);
        Check.due("new: doSheet", x.doSheet(1), Check.NONE);
        Check.due("new: sheetsTo", x.sheetsTo(1, 0), 0);
        Check.due("new: clearText", x.clearText(), 0);
    }

    private static void writing() {
        PracticeSheets x = new PracticeSheets();
        Check.due("write", Check.write(x, "a!-b!c-a"), 4);
        Check.due("a tries", x.letter('a', 0), 2);
        Check.due("a slips", x.letter('a', 1), 1);
        Check.due("b slips", x.letter('b', 1), 1);
        Check.due("c slips", x.letter('c', 1), 0);
        Check.due("ab tries", x.join('a', 'b', 0), 1);
        Check.due("ab slips", x.join('a', 'b', 1), 1);
        Check.due("bc tries", x.join('b', 'c', 0), 1);
        Check.due("bc slips", x.join('b', 'c', 1), 0);
        Check.due("ca slips", x.join('c', 'a', 1), 1);
        Check.due("ba tries", x.join('b', 'a', 0), 0);
        Check.due("ac tries", x.join('a', 'c', 0), 0);
        Check.due("the text stays", x.count(11), 8);
        Check.due("again", x.write(), 4);
        Check.due("a tries", x.letter('a', 0), 4);
        Check.due("written", x.count(7), 2);
        Check.due("slips so far", x.count(8), 8);
        Check.due("states", x.count(10), 2);
        Check.due("without a slip", Check.write(x, "zz"), 0);
        Check.due("zz tries", x.join('z', 'z', 0), 1);
        Check.due("states", x.count(10), 3);
        Check.due("one letter", Check.write(x, "q"), 0);
        Check.due("qq tries", x.join('q', 'q', 0), 0);
        Check.due("15 letters, all marked", Check.write(x, ALL_MARKED), 29);
        Check.due("aa slips", x.join('a', 'a', 1), 14);
        Check.due("15 letters", Check.write(x, "abcdefghijklmno"), 0);
    }

    private static void faultsOfWriting() {
        String[] texts = {"", "!", "-", "A", "a-", "a!-", "a-!", "a--b", "a!!", "a!b-", "ab,c", "a b", ",", "ab{",
            "a`", "aaaaaaaaaaaaaaa-", "aaaaaaaaaaaaaaa-a", "aaaaaaaaaaaaaaa!-", "aaaaaaaaaaaaaaaa", "a\u00e1",
            "a-\u0161", "aaaaaaaaaaaaaaa!!", ALL_MARKED + "a", "a!-b!-", "aa\u0161"};
        int[] faults = {0, 0, 0, 0, 2, 3, 2, 2, 2, 4, 2, 1, 0, 2,
            1, 15, 15, 16, 15, 1,
            2, 16, 44, 6, 2};
        PracticeSheets x = new PracticeSheets();
        for (int i = 0; i < texts.length; i++) {
            Check.due("write of \"" + texts[i] + "\"", Check.write(x, texts[i]), -100 - faults[i]);
        }
        Check.due("a fault writes nothing", x.letter('a', 0), 0);
        Check.due("a fault is not counted", x.count(7) + x.count(8), 0);
        Check.due("a fault records nothing", x.count(10), 0);
        Check.due("the last mark is allowed", Check.write(x, "aaaaaaaaaaaaaaa!"), 1);
    }

    private static void triesGrowToTheirMost() {
        PracticeSheets x = new PracticeSheets();
        Check.text(x, ALL_MARKED);
        for (int i = 0; i < 20; i++) {
            x.write();
        }
        Check.due("a tries", x.letter('a', 0), 300);
        Check.add(x, "aaaaaaaaaaaaaaa,aaaaaaaaaaaaaa,aaaaaaaaaaaaa,aaaaaaaaaaaa");
        Check.add(x, "aaaaaaaaaaa,aaaaaaaaaa,aaaaaaaaa,aaaaaaaa,aaaaaaa,aaaaaa");
        for (int i = 0; i < 92; i++) {
            Check.due("all ten lines", x.doSheet(10), 10);
        }
        Check.due("a tries", x.letter('a', 0), 9960);
        Check.due("all ten lines", x.doSheet(10), 10);
        Check.due("a tries at their most", x.letter('a', 0), 9999);
        Check.due("aa tries", x.join('a', 'a', 0), 280 + 93 * 95);
        Check.write(x, "a!");
        Check.due("a tries stay", x.letter('a', 0), 9999);
        Check.due("a slips go on", x.letter('a', 1), 301);
        for (int i = 0; i < 13; i++) {
            x.doSheet(10);
        }
        Check.due("aa tries at their most", x.join('a', 'a', 0), 9999);
        x.pass(1);
        Check.due("half of the most", x.letter('a', 0), 4999);
        Check.due("half of the slips", x.letter('a', 1), 150);
    }

    private static void weeksPass() {
        PracticeSheets x = new PracticeSheets();
        Check.write(x, "a!a!a!a!a!b!b!bc");
        Check.due("pass(0)", x.pass(0), Check.BAD);
        Check.due("pass(-1)", x.pass(-1), Check.BAD);
        Check.due("pass(21)", x.pass(21), Check.BAD);
        Check.due("pass(max)", x.pass(Integer.MAX_VALUE), Check.BAD);
        Check.due("pass(min)", x.pass(Integer.MIN_VALUE), Check.BAD);
        Check.due("no week", x.count(1), 0);
        Check.due("c, ab and bc become untried", x.pass(1), 3);
        Check.due("a tries", x.letter('a', 0), 2);
        Check.due("a slips", x.letter('a', 1), 2);
        Check.due("b tries", x.letter('b', 0), 1);
        Check.due("b slips", x.letter('b', 1), 1);
        Check.due("aa tries", x.join('a', 'a', 0), 2);
        Check.due("bb tries", x.join('b', 'b', 0), 1);
        Check.due("b and bb", x.pass(1), 2);
        Check.due("weeks", x.count(1), 2);
        Check.due("a tries", x.letter('a', 0), 1);
        Check.due("a and aa", x.pass(20), 2);
        Check.due("none is left", x.pass(1), 0);
        Check.due("weeks", x.count(1), 23);
        Check.due("states", x.count(10), 4);
        Check.due("what was written is kept", x.count(7), 1);
        Check.due("what slipped is kept", x.count(8), 7);
        PracticeSheets y = new PracticeSheets();
        Check.write(y, "d!d!d!d!d!d!d!dd!dd");
        Check.due("several weeks at once", y.pass(2), 0);
        Check.due("d tries: 11, 5, 2", y.letter('d', 0), 2);
        Check.due("d slips: 8, 4, 2", y.letter('d', 1), 2);
        Check.due("dd tries: 10, 5, 2", y.join('d', 'd', 0), 2);
    }

    private static void weeksAreFull() {
        PracticeSheets x = new PracticeSheets();
        for (int i = 0; i < 49; i++) {
            x.pass(20);
        }
        Check.due("980 weeks", x.count(1), 980);
        Check.write(x, "a");
        Check.due("pass(20)", x.pass(20), Check.FULL);
        Check.due("pass(21) when full", x.pass(21), Check.BAD);
        Check.due("FULL changes nothing", x.letter('a', 0), 1);
        Check.due("999 weeks", x.pass(19), 1);
        Check.due("weeks", x.count(1), 999);
        Check.due("pass(1)", x.pass(1), Check.FULL);
        Check.due("weeks", x.count(1), 999);
    }

    private static void setting() {
        PracticeSheets x = new PracticeSheets();
        Check.due("setUntried(5)", x.setUntried(5), Check.NONE);
        Check.due("setUntried(-1)", x.setUntried(-1), Check.BAD);
        Check.due("setUntried(100)", x.setUntried(100), Check.BAD);
        Check.due("nothing is recorded", x.count(10), 0);
        Check.due("setUntried(99)", x.setUntried(99), 5);
        Check.due("count(2)", x.count(2), 99);
        Check.due("setUntried(0)", x.setUntried(0), 99);
        Check.due("setUntried(0)", x.setUntried(0), Check.NONE);
        Check.due("setUntried(1)", x.setUntried(1), 0);
        Check.due("states", x.count(10), 3);
        Check.add(x, "ab");
        Check.due("three parts untried", x.word(0, 4), 3);
    }

    private static void typing() {
        PracticeSheets x = new PracticeSheets();
        Check.due("clearText", x.clearText(), 0);
        for (int i = 1; i <= 60; i++) {
            Check.due("type", x.type((char) (i * 1000)), i);
        }
        Check.due("the 61st", x.type('a'), Check.FULL);
        Check.due("length", x.count(11), 60);
        Check.due("clearText", x.clearText(), 60);
        Check.due("length", x.count(11), 0);
        Check.due("type 0", x.type((char) 0), 1);
        Check.due("type the last", x.type((char) 65535), 2);
        Check.due("no act", x.count(10), 0);
        Check.due("nothing of the old text is left", Check.write(x, "ab"), 0);
    }

    private static void letters() {
        PracticeSheets x = new PracticeSheets();
        Check.write(x, "a!bza!z");
        Check.add(x, "abba,bz,az,q");
        Check.due("tries", x.letter('a', 0), 2);
        Check.due("slips", x.letter('a', 1), 2);
        Check.due("need", x.letter('a', 2), 50);
        Check.due("words", x.letter('a', 3), 2);
        Check.due("z", x.letter('z', 0), 2);
        Check.due("z in words", x.letter('z', 3), 2);
        Check.due("b in words", x.letter('b', 3), 2);
        Check.write(x, "a");
        x.write();
        Check.due("need 200 / 6, rounded down", x.letter('a', 2), 33);
        char[] unknown = {'A', 'Z', '`', '{', '!', 0, 65535, (char) ('a' + 256)};
        for (char sign : unknown) {
            Check.due("letter " + (int) sign, x.letter(sign, 0), Check.UNKNOWN);
            Check.due("letter " + (int) sign, x.letter(sign, 4), Check.UNKNOWN);
        }
        Check.due("what -1", x.letter('a', -1), Check.BAD);
        Check.due("what 4", x.letter('z', 4), Check.BAD);
        Check.due("what max", x.letter('z', Integer.MAX_VALUE), Check.BAD);
    }

    private static void joins() {
        PracticeSheets x = new PracticeSheets();
        Check.write(x, "z-z-az-z");
        Check.add(x, "zzz,az,za,zzzz");
        Check.due("tries", x.join('z', 'z', 0), 2);
        Check.due("slips", x.join('z', 'z', 1), 2);
        Check.due("need", x.join('z', 'z', 2), 50);
        Check.due("words", x.join('z', 'z', 3), 2);
        Check.due("za tries", x.join('z', 'a', 0), 1);
        Check.due("za slips", x.join('z', 'a', 1), 1);
        Check.due("za need", x.join('z', 'a', 2), 33);
        Check.due("za words", x.join('z', 'a', 3), 1);
        Check.due("az slips", x.join('a', 'z', 1), 0);
        Check.due("az words", x.join('a', 'z', 3), 1);
        Check.due("aa", x.join('a', 'a', 0), 0);
        Check.due("one is unknown", x.join('A', 'a', 0), Check.UNKNOWN);
        Check.due("other is unknown", x.join('a', '{', 0), Check.UNKNOWN);
        Check.due("other is unknown, what too", x.join('a', '`', 9), Check.UNKNOWN);
        Check.due("both are unknown", x.join((char) 0, (char) 65535, 0), Check.UNKNOWN);
        Check.due("what -1", x.join('a', 'a', -1), Check.BAD);
        Check.due("what 4", x.join('z', 'z', 4), Check.BAD);
    }
}
