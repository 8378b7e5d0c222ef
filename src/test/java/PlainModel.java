import java.util.ArrayList;
import java.util.List;

/** The document once more, in its slowest and plainest form: the word is told, every state is a copy. */
final class PlainModel {
    static final int NO_SUCH = -1, BAD_VALUE = -2, BAD_TEXT = -3, TOO_MANY = -4, NOT_POSSIBLE = -5, NONE = -6;

    /** Rows of symbols; the last one is the main row. */
    private static final class State {
        final List<List<Integer>> rules = new ArrayList<>();
        List<Integer> main = new ArrayList<>();

        State copy() {
            State other = new State();
            for (List<Integer> rule : rules) {
                other.rules.add(new ArrayList<>(rule));
            }
            other.main = new ArrayList<>(main);
            return other;
        }

        List<List<Integer>> rows() {
            List<List<Integer>> rows = new ArrayList<>(rules);
            rows.add(main);
            return rows;
        }

        String told(int symbol) {
            return symbol < 8 ? String.valueOf((char) ('a' + symbol)) : told(rules.get(symbol - 8));
        }

        String told(List<Integer> row) {
            StringBuilder word = new StringBuilder();
            for (int symbol : row) {
                word.append(told(symbol));
            }
            return word.toString();
        }

        String word() {
            return told(main);
        }

        int uses(int rule) {
            int uses = 0;
            for (List<Integer> row : rows()) {
                for (int symbol : row) {
                    uses += symbol == 8 + rule ? 1 : 0;
                }
            }
            return uses;
        }

        int size() {
            int size = 0;
            for (List<Integer> row : rows()) {
                size += row.size();
            }
            return size;
        }

        int depth(int rule) {
            int deepest = 0;
            for (int symbol : rules.get(rule)) {
                deepest = symbol < 8 ? deepest : Math.max(deepest, depth(symbol - 8));
            }
            return deepest + 1;
        }

        int times(int first, int second) {
            int times = 0;
            int free = 0;
            for (int i = 0; i + 1 < main.size(); i++) {
                if (i >= free && main.get(i) == first && main.get(i + 1) == second) {
                    times++;
                    free = i + 2;
                }
            }
            return times;
        }

        int[] best() {
            int[] best = {0, 0, 0};
            for (int i = 0; i + 1 < main.size(); i++) {
                int times = times(main.get(i), main.get(i + 1));
                if (times > best[2]) {
                    best = new int[] {main.get(i), main.get(i + 1), times};
                }
            }
            return best;
        }

        int fold(int most) {
            int folded = 0;
            while (folded < most && rules.size() < 26 && best()[2] >= 2) {
                int[] best = best();
                List<Integer> shorter = new ArrayList<>();
                for (int i = 0; i < main.size(); i++) {
                    if (i + 1 < main.size() && main.get(i) == best[0] && main.get(i + 1) == best[1]) {
                        shorter.add(8 + rules.size());
                        i++;
                    } else {
                        shorter.add(main.get(i));
                    }
                }
                main = shorter;
                rules.add(new ArrayList<>(List.of(best[0], best[1])));
                folded++;
            }
            return folded;
        }

        private List<Integer> without(List<Integer> row, int rule) {
            List<Integer> longer = new ArrayList<>();
            for (int symbol : row) {
                if (symbol == 8 + rule) {
                    longer.addAll(rules.get(rule));
                } else {
                    longer.add(symbol > 8 + rule ? symbol - 1 : symbol);
                }
            }
            return longer;
        }

        /** Null if a row would be too long. */
        State unrolled(int rule) {
            State other = new State();
            for (int k = 0; k < rules.size(); k++) {
                if (k != rule) {
                    other.rules.add(without(rules.get(k), rule));
                }
            }
            other.main = without(main, rule);
            for (List<Integer> row : other.rows()) {
                if (row.size() > 80) {
                    return null;
                }
            }
            return other;
        }

        /** Opens until a letter tells the place; returns how many are opened. */
        int open(int place) {
            int opened = 0;
            while (main.get(at(place)) >= 8) {
                int position = at(place);
                int symbol = main.remove(position);
                main.addAll(position, rules.get(symbol - 8));
                opened++;
            }
            return opened;
        }

        int start(int position) {
            return told(main.subList(0, position)).length();
        }

        int at(int place) {
            int position = 0;
            while (start(position + 1) <= place) {
                position++;
            }
            return position;
        }
    }

    private State state = new State();
    private StringBuilder pad = new StringBuilder();
    private final List<State> history = new ArrayList<>();
    private final State[] slots = new State[2];

    private int change(State next, int answer) {
        history.add(state);
        if (history.size() > 6) {
            history.remove(0);
        }
        state = next;
        return answer;
    }

    private static State pruned(State from, int[] unrolled) {
        State now = from;
        boolean again = true;
        while (again) {
            again = false;
            for (int k = 0; k < now.rules.size() && !again; k++) {
                State next = now.uses(k) < 2 ? now.unrolled(k) : null;
                if (next != null) {
                    now = next;
                    unrolled[0]++;
                    again = true;
                }
            }
        }
        return now;
    }

    private boolean isPlace(int place) {
        return place >= 0 && place < state.word().length();
    }

    private boolean isLetter(int letter) {
        return letter >= 0 && letter <= 7;
    }

    /** The fault of the pad; where there is none, the rows go to the state. */
    private int parse(State into) {
        String text = pad.toString();
        int rule = 0;
        int i = 0;
        while (i < text.length() && text.charAt(i) == 'A' + rule) {
            i++;
            if (i == text.length() || text.charAt(i) != '=') {
                return i;
            }
            i++;
            List<Integer> row = new ArrayList<>();
            while (i < text.length() && symbolOf(text.charAt(i), rule) >= 0) {
                row.add(symbolOf(text.charAt(i), rule));
                i++;
            }
            if (i == text.length() || text.charAt(i) != ';' || row.isEmpty()) {
                return i;
            }
            i++;
            into.rules.add(row);
            rule++;
        }
        while (i < text.length() && symbolOf(text.charAt(i), rule) >= 0) {
            into.main.add(symbolOf(text.charAt(i), rule));
            i++;
        }
        return i == text.length() && !into.main.isEmpty() ? NONE : i;
    }

    private static int symbolOf(char code, int rules) {
        int letter = "abcdefgh".indexOf(code);
        int rule = "ABCDEFGHIJKLMNOPQRSTUVWXYZ".indexOf(code);
        return letter >= 0 ? letter : rule >= 0 && rule < rules ? 8 + rule : -1;
    }

    /** As told() would count them, without telling words that are far too long. */
    private static boolean tooLong(State s) {
        long[] letters = new long[s.rules.size()];
        int k = 0;
        for (List<Integer> row : s.rows()) {
            long sum = 0;
            for (int symbol : row) {
                sum += symbol < 8 ? 1 : letters[symbol - 8];
            }
            if (sum > 9999) {
                return true;
            }
            if (k < letters.length) {
                letters[k++] = sum;
            }
        }
        return false;
    }

    int tell() {
        State next = new State();
        if (parse(next) != NONE) {
            return BAD_TEXT;
        }
        if (tooLong(next)) {
            return TOO_MANY;
        }
        pad.setLength(0);
        return change(next, next.word().length());
    }

    int fold(int times) {
        if (times < 1 || times > 26) {
            return BAD_VALUE;
        }
        State next = state.copy();
        int folded = next.fold(times);
        return folded == 0 ? NOT_POSSIBLE : change(next, folded);
    }

    int unroll(int rule) {
        if (rule < 0 || rule >= state.rules.size()) {
            return NO_SUCH;
        }
        State next = state.unrolled(rule);
        return next == null ? TOO_MANY : change(next, state.uses(rule));
    }

    int prune() {
        int[] unrolled = {0};
        State next = pruned(state.copy(), unrolled);
        return change(next, unrolled[0]);
    }

    int edit(int place, int letter) {
        if (!isPlace(place)) {
            return NO_SUCH;
        }
        if (!isLetter(letter)) {
            return BAD_VALUE;
        }
        State next = state.copy();
        next.open(place);
        int previous = next.main.set(next.at(place), letter);
        return next.main.size() > 80 ? TOO_MANY : change(next, previous);
    }

    int insert(int place, int letter) {
        int length = state.word().length();
        if (place != length && !isPlace(place)) {
            return NO_SUCH;
        }
        if (!isLetter(letter)) {
            return BAD_VALUE;
        }
        State next = state.copy();
        int position = next.main.size();
        if (place < length) {
            if (next.start(next.at(place)) != place) {
                next.open(place);
            }
            position = next.at(place);
        }
        next.main.add(position, letter);
        return next.main.size() > 80 || length == 9999 ? TOO_MANY : change(next, length + 1);
    }

    int delete(int place) {
        if (!isPlace(place)) {
            return NO_SUCH;
        }
        State next = state.copy();
        next.open(place);
        if (next.main.size() > 80) {
            return TOO_MANY;
        }
        int position = next.at(place);
        int letter = next.main.remove(position);
        return change(next, letter);
    }

    int letter(int place) {
        return isPlace(place) ? state.word().charAt(place) - 'a' : NO_SUCH;
    }

    int symbol(int row, int place) {
        if (row != NONE && (row < 0 || row >= state.rules.size())) {
            return NO_SUCH;
        }
        List<Integer> asked = row == NONE ? state.main : state.rules.get(row);
        return place >= 0 && place < asked.size() ? asked.get(place) : NO_SUCH;
    }

    int ofRule(int rule, int what) {
        if (rule < 0 || rule >= state.rules.size()) {
            return NO_SUCH;
        }
        return what == 0 ? state.rules.get(rule).size()
            : what == 1 ? state.told(8 + rule).length()
            : what == 2 ? state.uses(rule)
            : what == 3 ? state.depth(rule) : BAD_VALUE;
    }

    int count(int what) {
        int deepest = 0;
        int unused = 0;
        for (int k = 0; k < state.rules.size(); k++) {
            deepest = Math.max(deepest, state.depth(k));
            unused += state.uses(k) == 0 ? 1 : 0;
        }
        return what == 0 ? state.word().length()
            : what == 1 ? state.main.size()
            : what == 2 ? state.rules.size()
            : what == 3 ? state.size()
            : what == 4 ? deepest
            : what == 5 ? unused
            : what == 6 ? pad.length()
            : what == 7 ? history.size() : BAD_VALUE;
    }

    int pair(int first, int second) {
        int symbols = 8 + state.rules.size();
        boolean there = first >= 0 && first < symbols && second >= 0 && second < symbols;
        return there ? state.times(first, second) : NO_SUCH;
    }

    int best(int what) {
        if (what < 0 || what > 2) {
            return BAD_VALUE;
        }
        return state.main.size() < 2 ? NONE : state.best()[what];
    }

    long ratio() {
        int letters = state.word().length();
        return Double.doubleToLongBits(letters == 0 ? 0.0 : (double) state.size() / (double) letters);
    }

    int share(int letter) {
        if (!isLetter(letter)) {
            return NO_SUCH;
        }
        String word = state.word();
        int times = 0;
        for (char c : word.toCharArray()) {
            times += c == 'a' + letter ? 1 : 0;
        }
        return Float.floatToIntBits(word.isEmpty() ? 0.0f : (float) times / (float) word.length());
    }

    int mark() {
        int mark = 7;
        for (char c : state.word().toCharArray()) {
            mark = 31 * mark + (c - 'a') + 1;
        }
        return mark;
    }

    int couldBe() {
        State next = state.copy();
        next.fold(26);
        return pruned(next, new int[1]).size();
    }

    int unlike(int slot) {
        if (slot < 0 || slot > 1) {
            return BAD_VALUE;
        }
        if (slots[slot] == null) {
            return NOT_POSSIBLE;
        }
        String mine = state.word();
        String other = slots[slot].word();
        for (int i = 0; i < Math.max(mine.length(), other.length()); i++) {
            if (i >= mine.length() || i >= other.length() || mine.charAt(i) != other.charAt(i)) {
                return i;
            }
        }
        return NONE;
    }

    int opens(int place) {
        return isPlace(place) ? state.copy().open(place) : NO_SUCH;
    }

    int put(long characters) {
        StringBuilder text = new StringBuilder();
        long rest = characters;
        while (rest != 0) {
            int code = (int) (rest & 255);
            if (code < 33 || code > 126) {
                return BAD_VALUE;
            }
            text.insert(0, (char) code);
            rest >>>= 8;
        }
        if (text.length() == 0) {
            return BAD_VALUE;
        }
        if (pad.length() + text.length() > 80) {
            return TOO_MANY;
        }
        pad.append(text);
        return pad.length();
    }

    int wipe() {
        int length = pad.length();
        pad.setLength(0);
        return length;
    }

    int fault() {
        return parse(new State());
    }

    int undo() {
        if (history.isEmpty()) {
            return NOT_POSSIBLE;
        }
        state = history.remove(history.size() - 1);
        return history.size();
    }

    int save(int slot) {
        if (slot < 0 || slot > 1) {
            return BAD_VALUE;
        }
        slots[slot] = state.copy();
        return state.rules.size();
    }

    int restore(int slot) {
        if (slot < 0 || slot > 1) {
            return BAD_VALUE;
        }
        return slots[slot] == null ? NOT_POSSIBLE : change(slots[slot].copy(), slots[slot].rules.size());
    }
}
