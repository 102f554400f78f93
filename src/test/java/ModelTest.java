import java.util.ArrayDeque;
import java.util.ArrayList;
import java.util.Deque;
import java.util.List;
import java.util.Map;
import java.util.Set;
import java.util.TreeMap;
import java.util.TreeSet;
import java.util.regex.Pattern;

/**
 * Long runs of calls, each answer compared with the one of a slow second telling of the document, which holds
 * parts as texts and finds faults by patterns, so that it shares no way of working with the class.
 */
public final class ModelTest {
    private static final int RUNS = 1200;
    private static final int CALLS = 512;

    private static final class State {
        private final Map<String, int[]> parts = new TreeMap<>();
        private final List<String> words = new ArrayList<>();
        private int weeks = 0;
        private int untried = 5;
        private int written = 0;
        private int slips = 0;
        private int sheets = 0;

        State copy() {
            State copy = new State();
            for (Map.Entry<String, int[]> part : parts.entrySet()) {
                copy.parts.put(part.getKey(), part.getValue().clone());
            }
            copy.words.addAll(words);
            copy.weeks = weeks;
            copy.untried = untried;
            copy.written = written;
            copy.slips = slips;
            copy.sheets = sheets;
            return copy;
        }

        int tries(String part) {
            return parts.containsKey(part) ? parts.get(part)[0] : 0;
        }

        int slips(String part) {
            return parts.containsKey(part) ? parts.get(part)[1] : 0;
        }

        int need(String part) {
            return 100 * slips(part) / (tries(part) + 2);
        }

        void grow(String part, int which) {
            int[] numbers = parts.computeIfAbsent(part, key -> new int[2]);
            numbers[which] = Math.min(9999, numbers[which] + 1);
        }

        void tryAll(String word) {
            for (int i = 0; i < word.length(); i++) {
                grow(word.substring(i, i + 1), 0);
            }
            for (int i = 2; i <= word.length(); i++) {
                grow(word.substring(i - 2, i), 0);
            }
        }

        int having(String part) {
            int found = 0;
            for (String word : words) {
                found += word.contains(part) ? 1 : 0;
            }
            return found;
        }

        int gain(String word, Set<String> covered) {
            int gain = 0;
            for (String part : partsOf(word)) {
                int need = covered.contains(part) ? need(part) / 2 : need(part);
                gain += tries(part) == 0 ? untried : need;
            }
            return gain;
        }

        /** The numbers of the words of a sheet, and their gains, as pairs. */
        List<int[]> sheet(int lines) {
            List<int[]> sheet = new ArrayList<>();
            Set<String> covered = new TreeSet<>();
            List<Integer> left = new ArrayList<>();
            for (int i = 0; i < words.size(); i++) {
                left.add(i);
            }
            while (sheet.size() < lines && !left.isEmpty()) {
                left.sort((one, other) -> before(one, other, covered));
                int best = left.get(0);
                int gain = gain(words.get(best), covered);
                if (gain <= 0) {
                    break;
                }
                sheet.add(new int[] {best, gain});
                left.remove(0);
                covered.addAll(partsOf(words.get(best)));
            }
            return sheet;
        }

        private int before(int one, int other, Set<String> covered) {
            int byGain = Integer.compare(gain(words.get(other), covered), gain(words.get(one), covered));
            int byLength = Integer.compare(words.get(one).length(), words.get(other).length());
            return byGain != 0 ? byGain : byLength != 0 ? byLength : Integer.compare(one, other);
        }

        int doSheet(int lines) {
            List<int[]> sheet = sheet(lines);
            for (int[] line : sheet) {
                tryAll(words.get(line[0]));
                written++;
            }
            sheets += sheet.isEmpty() ? 0 : 1;
            return sheet.size();
        }

        List<String> ranked(int length) {
            List<String> ranked = new ArrayList<>();
            for (String part : parts.keySet()) {
                if (part.length() == length && need(part) > 0) {
                    ranked.add(part);
                }
            }
            ranked.sort((one, other) -> need(one) != need(other) ? need(other) - need(one) : one.compareTo(other));
            return ranked;
        }
    }

    private static Set<String> partsOf(String word) {
        Set<String> parts = new TreeSet<>();
        for (int i = 0; i < word.length(); i++) {
            parts.add(word.substring(i, i + 1));
            if (i > 0) {
                parts.add(word.substring(i - 1, i + 1));
            }
        }
        return parts;
    }

    private static final class Model {
        private static final Pattern WRITTEN = Pattern.compile("[a-z]!?(-?[a-z]!?){0,14}");
        private static final Pattern WORDS = Pattern.compile("[a-z]{1,15}(,[a-z]{1,15})*");

        private State now = new State();
        private State snapshot = null;
        private final Deque<State> history = new ArrayDeque<>();
        private String text = "";

        private void record() {
            history.addLast(now.copy());
            if (history.size() > 4) {
                history.removeFirst();
            }
        }

        /** The fault of the text, or -1: a character is allowed if a text that fits can begin so. */
        private int fault(Pattern pattern) {
            for (int i = 1; i <= text.length(); i++) {
                String begin = text.substring(0, i);
                if (!pattern.matcher(begin).matches() && !pattern.matcher(begin + "a").matches()) {
                    return i - 1;
                }
            }
            return pattern.matcher(text).matches() ? -1 : text.length();
        }

        int write() {
            int fault = fault(WRITTEN);
            if (fault >= 0) {
                return -100 - fault;
            }
            record();
            String word = text.replace("!", "").replace("-", "");
            now.tryAll(word);
            int slips = 0;
            int letters = 0;
            for (char sign : text.toCharArray()) {
                if (sign == '!') {
                    now.grow(word.substring(letters - 1, letters), 1);
                    slips++;
                } else if (sign == '-') {
                    now.grow(word.substring(letters - 1, letters + 1), 1);
                    slips++;
                } else {
                    letters++;
                }
            }
            now.written++;
            now.slips += slips;
            return slips;
        }

        int pass(int weeks) {
            if (weeks < 1 || weeks > 20) {
                return -2;
            }
            if (now.weeks + weeks > 999) {
                return -3;
            }
            record();
            int tried = tried();
            for (int week = 0; week < weeks; week++) {
                for (int[] numbers : now.parts.values()) {
                    numbers[0] = (numbers[0] - numbers[0] % 2) / 2;
                    numbers[1] = (numbers[1] - numbers[1] % 2) / 2;
                }
            }
            now.weeks += weeks;
            return tried - tried();
        }

        private int tried() {
            int tried = 0;
            for (String part : now.parts.keySet()) {
                tried += now.tries(part) > 0 ? 1 : 0;
            }
            return tried;
        }

        int setUntried(int untried) {
            if (untried < 0 || untried > 99) {
                return -2;
            }
            int previous = now.untried;
            if (untried == previous) {
                return -5;
            }
            record();
            now.untried = untried;
            return previous;
        }

        int addWords() {
            int fault = fault(WORDS);
            if (fault >= 0) {
                return -100 - fault;
            }
            List<String> added = new ArrayList<>();
            for (String word : text.split(",")) {
                if (!now.words.contains(word) && !added.contains(word)) {
                    added.add(word);
                }
            }
            if (now.words.size() + added.size() > 20) {
                return -3;
            }
            if (added.isEmpty()) {
                return -5;
            }
            record();
            now.words.addAll(added);
            return added.size();
        }

        int removeWord(int word) {
            if (word < 0 || word >= now.words.size()) {
                return -1;
            }
            record();
            now.words.remove(word);
            return now.words.size();
        }

        int doSheet(int lines) {
            if (lines < 1 || lines > 10) {
                return -2;
            }
            if (now.sheet(lines).isEmpty()) {
                return -5;
            }
            record();
            return now.doSheet(lines);
        }

        int type(char sign) {
            if (text.length() == 60) {
                return -3;
            }
            text += sign;
            return text.length();
        }

        int clearText() {
            int length = text.length();
            text = "";
            return length;
        }

        int undo() {
            if (history.isEmpty()) {
                return -5;
            }
            now = history.removeLast();
            return history.size();
        }

        int keep() {
            snapshot = now.copy();
            return now.words.size();
        }

        int restore() {
            if (snapshot == null) {
                return -5;
            }
            record();
            now = snapshot.copy();
            return now.words.size();
        }

        private int part(String part, int what) {
            if (!part.matches("[a-z]+")) {
                return -1;
            }
            if (what < 0 || what > 3) {
                return -2;
            }
            return new int[] {now.tries(part), now.slips(part), now.need(part), now.having(part)}[what];
        }

        int word(int word, int what) {
            if (word < 0 || word >= now.words.size()) {
                return -1;
            }
            if (what < 0 || what > 4) {
                return -2;
            }
            String letters = now.words.get(word);
            int untried = 0;
            int need = 0;
            for (String part : partsOf(letters)) {
                untried += now.tries(part) == 0 ? 1 : 0;
                need += now.need(part);
            }
            int gain = now.gain(letters, new TreeSet<>());
            return new int[] {letters.length(), need, partsOf(letters).size(), untried, gain}[what];
        }

        int letterOf(int word, int index) {
            if (word < 0 || word >= now.words.size()) {
                return -1;
            }
            if (index < 0) {
                return -2;
            }
            return index < now.words.get(word).length() ? now.words.get(word).charAt(index) - 'a' : -5;
        }

        int sheet(int lines, int line, int what) {
            if (lines < 1 || lines > 10 || line < 0 || what < 0 || what > 1) {
                return -2;
            }
            List<int[]> sheet = now.sheet(lines);
            return line < sheet.size() ? sheet.get(line)[what] : -5;
        }

        int covers(int lines, int what) {
            if (lines < 1 || lines > 10 || what < 0 || what > 4) {
                return -2;
            }
            Set<String> covered = new TreeSet<>();
            int gains = 0;
            for (int[] line : now.sheet(lines)) {
                covered.addAll(partsOf(now.words.get(line[0])));
                gains += line[1];
            }
            int letters = 0;
            int needs = 0;
            for (String part : covered) {
                letters += part.length() == 1 ? 1 : 0;
                needs += now.need(part);
            }
            return new int[] {now.sheet(lines).size(), letters, covered.size() - letters, needs, gains}[what];
        }

        int worst(boolean areJoins, int rank) {
            if (rank < 0) {
                return -2;
            }
            List<String> ranked = now.ranked(areJoins ? 2 : 1);
            if (rank >= ranked.size()) {
                return -5;
            }
            int number = 0;
            for (char letter : ranked.get(rank).toCharArray()) {
                number = 26 * number + letter - 'a';
            }
            return number;
        }

        int missing(boolean areJoins) {
            int missing = 0;
            for (String part : now.ranked(areJoins ? 2 : 1)) {
                missing += now.having(part) == 0 ? 1 : 0;
            }
            return missing;
        }

        int sheetsTo(int lines, int need) {
            if (lines < 1 || lines > 10 || need < 0 || need > 99) {
                return -2;
            }
            State trial = now.copy();
            int done = 0;
            while (isNeeded(trial, need)) {
                if (done == 20 || trial.doSheet(lines) == 0) {
                    return -5;
                }
                done++;
            }
            return done;
        }

        private static boolean isNeeded(State state, int need) {
            for (String word : state.words) {
                for (String part : partsOf(word)) {
                    if (state.need(part) > need) {
                        return true;
                    }
                }
            }
            return false;
        }

        int count(int what) {
            if (what < 0 || what > 11) {
                return -2;
            }
            int[] tried = new int[3];
            for (String part : now.parts.keySet()) {
                tried[part.length()] += now.tries(part) > 0 ? 1 : 0;
            }
            int[] worst = new int[3];
            for (int length = 1; length <= 2; length++) {
                List<String> ranked = now.ranked(length);
                worst[length] = ranked.isEmpty() ? 0 : now.need(ranked.get(0));
            }
            return new int[] {now.words.size(), now.weeks, now.untried, 26 - tried[1], tried[2], worst[1], worst[2],
                now.written, now.slips, now.sheets, history.size(), text.length()}[what];
        }
    }

    private long seed;
    private int letters;
    private String typed = "";
    private int typedSoFar = 0;
    private final PracticeSheets real = new PracticeSheets();
    private final Model model = new Model();

    private ModelTest(long seed) {
        this.seed = seed;
        letters = new int[] {1, 2, 3, 5, 9, 26}[(int) (seed % 6)];
    }

    /** A number from 0 to ahead of the bound, from a fixed row of numbers. */
    private int pick(int bound) {
        seed = seed * 6364136223846793005L + 1442695040888963407L;
        return (int) ((seed >>> 33) % bound);
    }

    private int number(int from, int to) {
        if (pick(20) > 0) {
            return from + pick(to - from + 1);
        }
        int[] odd = {from - 1, to + 1, Integer.MIN_VALUE, Integer.MAX_VALUE, -1, 0};
        return odd[pick(odd.length)];
    }

    private char sign() {
        return pick(30) > 0 ? (char) ('a' + pick(letters)) : "AZ`{!-, \u00e1\u0000".charAt(pick(10));
    }

    private String word(boolean isMarked) {
        StringBuilder word = new StringBuilder();
        int length = 1 + (pick(3) > 0 ? pick(4) : pick(16));
        for (int i = 0; i < length; i++) {
            word.append((char) ('a' + pick(letters)));
            if (isMarked && pick(3) > 0) {
                word.append('!');
            }
            if (isMarked && pick(3) == 0 && i < length - 1) {
                word.append('-');
            }
        }
        return word.toString();
    }

    private void chooseText() {
        StringBuilder text = new StringBuilder(word(pick(2) == 0));
        if (pick(2) == 0) {
            int more = pick(pick(4) == 0 ? 25 : 6);
            for (int i = 0; i < more; i++) {
                text.append(',').append(word(false));
            }
        }
        if (pick(8) == 0) {
            text.setCharAt(pick(text.length()), sign());
        }
        if (pick(12) == 0) {
            text.append(sign());
        }
        typed = text.toString();
        typedSoFar = 0;
    }

    private void due(String call, int got, int want) {
        Check.due(letters + " letters: " + call, got, want);
    }

    private void run() {
        for (int i = 0; i < CALLS; i++) {
            if (typedSoFar < typed.length() && pick(40) > 0) {
                char sign = typed.charAt(typedSoFar);
                typedSoFar++;
                due("type", real.type(sign), model.type(sign));
            } else if (pick(5) < 3) {
                act();
            } else {
                tell();
            }
        }
    }

    private void act() {
        int number;
        switch (pick(14)) {
            case 0: case 1: case 2:
                due("clearText", real.clearText(), model.clearText());
                chooseText();
                break;
            case 3: case 4: case 5:
                due("write", real.write(), model.write());
                break;
            case 6: case 7:
                due("addWords", real.addWords(), model.addWords());
                break;
            case 8:
                number = pick(3) > 0 ? 1 : number(1, 20);
                due("pass", real.pass(number), model.pass(number));
                break;
            case 9:
                number = pick(4) == 0 ? 0 : number(0, 99);
                due("setUntried", real.setUntried(number), model.setUntried(number));
                break;
            case 10:
                number = number(0, Math.max(1, real.count(0)));
                due("removeWord", real.removeWord(number), model.removeWord(number));
                break;
            case 11:
                number = number(1, 10);
                due("doSheet", real.doSheet(number), model.doSheet(number));
                break;
            case 12:
                due("undo", real.undo(), model.undo());
                break;
            default:
                if (pick(2) == 0) {
                    due("keep", real.keep(), model.keep());
                } else {
                    due("restore", real.restore(), model.restore());
                }
        }
    }

    private void tell() {
        char one = sign();
        char other = sign();
        int word = number(0, Math.max(1, real.count(0)));
        int lines = number(1, 10);
        int line = number(0, 5);
        int what = number(0, 4);
        boolean areJoins = pick(2) == 0;
        int many = number(0, 11);
        int need = number(0, pick(2) == 0 ? 20 : 99);
        switch (pick(10)) {
            case 0:
                due("letter", real.letter(one, what), model.part("" + one, what));
                break;
            case 1:
                due("join", real.join(one, other, what), model.part("" + one + other, what));
                break;
            case 2:
                due("word", real.word(word, what), model.word(word, what));
                break;
            case 3:
                due("letterOf", real.letterOf(word, many), model.letterOf(word, many));
                break;
            case 4:
                due("sheet", real.sheet(lines, line, what % 2), model.sheet(lines, line, what % 2));
                due("sheet", real.sheet(lines, line, what), model.sheet(lines, line, what));
                break;
            case 5:
                due("covers", real.covers(lines, what), model.covers(lines, what));
                break;
            case 6:
                due("worst", real.worst(areJoins, many), model.worst(areJoins, many));
                break;
            case 7:
                due("missing", real.missing(areJoins), model.missing(areJoins));
                break;
            case 8:
                due("sheetsTo", real.sheetsTo(lines, need), model.sheetsTo(lines, need));
                break;
            default:
                due("count", real.count(many), model.count(many));
        }
    }

    public static void main(String[] args) {
        for (int run = 0; run < RUNS; run++) {
            new ModelTest(run).run();
        }
        Check.end();
    }
}
