import java.util.Arrays;

/** Grammars that tell a word by rules; shared/DOC.md promises what each call answers. */
public final class PairGrammars {
    public static final int NO_SUCH = -1, BAD_VALUE = -2, BAD_TEXT = -3, TOO_MANY = -4, NOT_POSSIBLE = -5, NONE = -6;

    private static final int LETTERS = 8;
    private static final int MOST_RULES = 26;
    private static final int SYMBOLS = LETTERS + MOST_RULES;
    private static final int MOST_SYMBOLS = 80;
    private static final int MOST_LETTERS = 9999;
    private static final int MOST_CHARACTERS = 80;
    private static final int MOST_CHANGES = 6;
    private static final int SLOTS = 2;

    private final Grammar now = new Grammar();
    // Changes are tried here first, so that one that fails leaves no trace.
    private final Grammar trial = new Grammar();
    private final Pad pad = new Pad();
    private final History history = new History();
    private final Grammar[] slots = new Grammar[SLOTS];
    private final boolean[] saved = new boolean[SLOTS];
    private final Reader reader = new Reader();
    private final Pairs pairs = new Pairs();
    private final Tally tally = new Tally();
    private final Path path = new Path();
    private final Walk walk = new Walk();
    private final Walk otherWalk = new Walk();

    public PairGrammars() {
        for (int slot = 0; slot < slots.length; slot++) {
            slots[slot] = new Grammar();
        }
    }

    // ---- changes

    public int tell() {
        if (reader.read(pad, trial) != NONE) {
            return BAD_TEXT;
        }
        if (trial.tellsTooMuch()) {
            return TOO_MANY;
        }
        pad.clear();
        return accept(trial.wordLetters());
    }

    public int fold(int times) {
        if (times < 1 || times > MOST_RULES) {
            return BAD_VALUE;
        }
        trial.copy(now);
        int folded = trial.foldUpTo(times, pairs);
        if (folded == 0) {
            return NOT_POSSIBLE;
        }
        return accept(folded);
    }

    public int unroll(int rule) {
        if (!now.hasRule(rule)) {
            return NO_SUCH;
        }
        if (!now.canUnroll(rule)) {
            return TOO_MANY;
        }
        trial.copy(now);
        trial.unrollRule(rule);
        return accept(now.usesOf(rule));
    }

    public int prune() {
        trial.copy(now);
        return accept(trial.unrollSeldomUsed());
    }

    public int edit(int place, int letter) {
        if (!now.hasPlace(place)) {
            return NO_SUCH;
        }
        if (!isLetter(letter)) {
            return BAD_VALUE;
        }
        trial.copy(now);
        int position = trial.openTo(place);
        if (position < 0) {
            return TOO_MANY;
        }
        int previous = trial.mainSymbol(position);
        trial.setInMain(position, letter);
        return accept(previous);
    }

    public int insert(int place, int letter) {
        if (place != now.wordLetters() && !now.hasPlace(place)) {
            return NO_SUCH;
        }
        if (!isLetter(letter)) {
            return BAD_VALUE;
        }
        trial.copy(now);
        int position = trial.isBoundary(place) ? trial.positionInMain(place) : trial.openTo(place);
        if (position < 0 || !trial.putIntoMain(position, letter) || trial.tellsTooMuch()) {
            return TOO_MANY;
        }
        return accept(trial.wordLetters());
    }

    public int delete(int place) {
        if (!now.hasPlace(place)) {
            return NO_SUCH;
        }
        trial.copy(now);
        int position = trial.openTo(place);
        if (position < 0) {
            return TOO_MANY;
        }
        int previous = trial.mainSymbol(position);
        trial.takeFromMain(position);
        return accept(previous);
    }

    // ---- what there is

    public int letter(int place) {
        if (!now.hasPlace(place)) {
            return NO_SUCH;
        }
        path.follow(now, place);
        return path.foundLetter();
    }

    public int symbol(int row, int place) {
        if (row != NONE && !now.hasRule(row)) {
            return NO_SUCH;
        }
        Row asked = now.ruleRow(row);
        return asked.has(place) ? asked.at(place) : NO_SUCH;
    }

    public int ofRule(int rule, int what) {
        if (!now.hasRule(rule)) {
            return NO_SUCH;
        }
        switch (what) {
            case 0: return now.ruleRow(rule).size();
            case 1: return now.lettersOfRule(rule);
            case 2: return now.usesOf(rule);
            case 3: return now.depthOfRule(rule);
            default: return BAD_VALUE;
        }
    }

    public int count(int what) {
        switch (what) {
            case 0: return now.wordLetters();
            case 1: return now.mainRow().size();
            case 2: return now.ruleCount();
            case 3: return now.totalSize();
            case 4: return now.deepest();
            case 5: return now.unusedRules();
            case 6: return pad.size();
            case 7: return history.size();
            default: return BAD_VALUE;
        }
    }

    public int pair(int first, int second) {
        if (!now.hasSymbol(first) || !now.hasSymbol(second)) {
            return NO_SUCH;
        }
        return now.mainRow().timesOfPair(first, second);
    }

    public int best(int what) {
        if (what < 0 || what > 2) {
            return BAD_VALUE;
        }
        if (!pairs.findBest(now.mainRow())) {
            return NONE;
        }
        switch (what) {
            case 0: return pairs.bestFirst();
            case 1: return pairs.bestSecond();
            default: return pairs.bestTimes();
        }
    }

    public long ratio() {
        int letters = now.wordLetters();
        if (letters == 0) {
            return 0L;
        }
        return bitsOf((double) now.totalSize() / (double) letters, 52, 1023);
    }

    public int share(int letter) {
        if (!isLetter(letter)) {
            return NO_SUCH;
        }
        int letters = now.wordLetters();
        if (letters == 0) {
            return 0;
        }
        float part = (float) tally.timesOfLetter(now, letter) / (float) letters;
        return (int) bitsOf((double) part, 23, 127);
    }

    public int mark() {
        return tally.markOfWord(now);
    }

    // ---- what if; nothing changes

    public int couldBe() {
        trial.copy(now);
        trial.foldUpTo(MOST_RULES, pairs);
        trial.unrollSeldomUsed();
        return trial.totalSize();
    }

    public int unlike(int slot) {
        if (!isSlot(slot)) {
            return BAD_VALUE;
        }
        if (!saved[slot]) {
            return NOT_POSSIBLE;
        }
        walk.start();
        otherWalk.start();
        for (int place = 0; place <= MOST_LETTERS; place++) {
            int mine = walk.next(now);
            if (mine != otherWalk.next(slots[slot])) {
                return place;
            }
            if (mine == NONE) {
                return NONE;
            }
        }
        return NONE;
    }

    public int opens(int place) {
        if (!now.hasPlace(place)) {
            return NO_SUCH;
        }
        path.follow(now, place);
        return path.rulesPassed();
    }

    // ---- texts

    public int put(long characters) {
        int length = lengthOf(characters);
        if (length == 0) {
            return BAD_VALUE;
        }
        if (pad.size() + length > MOST_CHARACTERS) {
            return TOO_MANY;
        }
        for (int behind = length - 1; behind >= 0; behind--) {
            pad.add(codeIn(characters, behind));
        }
        return pad.size();
    }

    public int wipe() {
        int length = pad.size();
        pad.clear();
        return length;
    }

    public int fault() {
        return reader.read(pad, trial);
    }

    // ---- undo, saving

    public int undo() {
        if (history.size() == 0) {
            return NOT_POSSIBLE;
        }
        history.takeBack(now);
        return history.size();
    }

    public int save(int slot) {
        if (!isSlot(slot)) {
            return BAD_VALUE;
        }
        slots[slot].copy(now);
        saved[slot] = true;
        return now.ruleCount();
    }

    public int restore(int slot) {
        if (!isSlot(slot)) {
            return BAD_VALUE;
        }
        if (!saved[slot]) {
            return NOT_POSSIBLE;
        }
        trial.copy(slots[slot]);
        return accept(trial.ruleCount());
    }

    // ---- helpers

    /** Makes what was tried the grammar that there is, and hands the answer on. */
    private int accept(int answer) {
        history.record(now);
        now.copy(trial);
        return answer;
    }

    private static boolean isLetter(int symbol) {
        return symbol >= 0 && symbol < LETTERS;
    }

    private boolean isSlot(int slot) {
        return slot >= 0 && slot < slots.length && slot < saved.length;
    }

    /** The character that stands so many characters ahead of the last one, 0 if there is none. */
    private static int codeIn(long characters, int behind) {
        return (int) (characters >>> (8 * behind)) & 255;
    }

    /** How many characters a number tells, 0 if it tells none or is not well made. */
    private static int lengthOf(long characters) {
        for (int behind = 0; behind < 8; behind++) {
            int code = codeIn(characters, behind);
            if (code == 0) {
                return characters >>> (8 * behind) == 0L ? behind : 0;
            }
            if (code < 33 || code > 126) {
                return 0;
            }
        }
        return 8;
    }

    /** The bits of a number, 0 or a normal one above 0, in a format with such a fraction and bias. */
    private static long bitsOf(double number, int fractionBits, int bias) {
        if (number <= 0.0) {
            return 0L;
        }
        // Halving and doubling lose nothing, so the fraction that remains is exact.
        double scaled = number;
        int exponent = bias;
        for (int step = 0; step < bias && scaled >= 2.0; step++) {
            scaled = scaled / 2.0;
            exponent++;
        }
        for (int step = 0; step < bias && scaled < 1.0; step++) {
            scaled = scaled * 2.0;
            exponent--;
        }
        long one = 1L << fractionBits;
        long fraction = (long) (scaled * (double) one) - one;
        return ((long) exponent << fractionBits) + fraction;
    }

    /** A row of symbols. */
    private static final class Row {
        private final int[] symbols = new int[MOST_SYMBOLS];
        private int length = 0;

        int size() {
            return length;
        }

        boolean has(int position) {
            return position >= 0 && position < length && position < symbols.length;
        }

        int at(int position) {
            return has(position) ? symbols[position] : NONE;
        }

        void set(int position, int symbol) {
            if (has(position)) {
                symbols[position] = symbol;
            }
        }

        void clear() {
            length = 0;
        }

        void copy(Row other) {
            length = other.length;
            System.arraycopy(other.symbols, 0, symbols, 0, length);
        }

        /** False, and nothing changes, if there is no room. */
        boolean add(int symbol) {
            if (length < 0 || length >= symbols.length) {
                return false;
            }
            symbols[length] = symbol;
            length++;
            return true;
        }

        /** False, and nothing changes, if there is no room. */
        boolean putIn(int position, int symbol) {
            if (!shift(position, 1)) {
                return false;
            }
            set(position, symbol);
            return true;
        }

        void takeOut(int position) {
            shift(position + 1, -1);
        }

        /** Puts another row in the place of a symbol; false, and nothing changes, if there is no room. */
        boolean open(int position, Row filling) {
            if (!has(position) || !shift(position + 1, filling.length - 1)) {
                return false;
            }
            System.arraycopy(filling.symbols, 0, symbols, position, filling.length);
            return true;
        }

        /** Moves what stands from a position on; false, and nothing changes, if it can't be moved so far. */
        private boolean shift(int position, int by) {
            if (position < 0 || position > length || position + by < 0 || length + by > symbols.length) {
                return false;
            }
            System.arraycopy(symbols, position, symbols, position + by, length - position);
            length += by;
            return true;
        }

        private boolean hasPair(int position, int first, int second) {
            return has(position + 1) && at(position) == first && at(position + 1) == second;
        }

        int timesOfPair(int first, int second) {
            int times = 0;
            int position = 0;
            while (position < length) {
                boolean found = hasPair(position, first, second);
                position += found ? 2 : 1;
                times += found ? 1 : 0;
            }
            return times;
        }

        void foldPair(int first, int second, int symbol) {
            int from = 0;
            int to = 0;
            while (from < length) {
                boolean found = hasPair(from, first, second);
                set(to, found ? symbol : at(from));
                from += found ? 2 : 1;
                to++;
            }
            length = to;
        }

        boolean canUnroll(int symbol, Row filling) {
            int longer = length;
            for (int position = 0; position < length; position++) {
                if (at(position) == symbol) {
                    longer += filling.length - 1;
                }
            }
            return longer <= symbols.length;
        }

        /** Puts a rule's row in the place of its symbol; the symbols behind it are numbered anew. */
        void unrollSymbol(int symbol, Row filling) {
            for (int position = length - 1; position >= 0; position--) {
                if (at(position) == symbol) {
                    open(position, filling);
                } else if (at(position) > symbol) {
                    set(position, at(position) - 1);
                }
            }
        }
    }

    /** Rules and a main row, with what is often asked about them. */
    private static final class Grammar {
        private final Row[] rows = new Row[MOST_RULES];
        private final Row main = new Row();
        private int rules = 0;

        // Made anew by measure() behind every change.
        private final int[] letters = new int[MOST_RULES];
        private final int[] depths = new int[MOST_RULES];
        private final int[] uses = new int[MOST_RULES];
        private int wordLetters = 0;

        Grammar() {
            for (int rule = 0; rule < rows.length; rule++) {
                rows[rule] = new Row();
            }
        }

        void clear() {
            rules = 0;
            main.clear();
            measure();
        }

        void copy(Grammar other) {
            rules = other.rules;
            for (int rule = 0; rule < rules && rule < rows.length; rule++) {
                rows[rule].copy(other.rows[rule]);
            }
            main.copy(other.main);
            System.arraycopy(other.letters, 0, letters, 0, rules);
            System.arraycopy(other.depths, 0, depths, 0, rules);
            System.arraycopy(other.uses, 0, uses, 0, rules);
            wordLetters = other.wordLetters;
        }

        // -- what there is

        int ruleCount() {
            return rules;
        }

        boolean hasRule(int rule) {
            return rule >= 0 && rule < rules && rule < rows.length;
        }

        boolean hasSymbol(int symbol) {
            return isLetter(symbol) || isRule(symbol);
        }

        boolean isRule(int symbol) {
            return symbol >= LETTERS && symbol - LETTERS < rules;
        }

        boolean hasPlace(int place) {
            return place >= 0 && place < wordLetters;
        }

        Row mainRow() {
            return main;
        }

        /** The row of a rule; the main row for NONE. */
        Row ruleRow(int rule) {
            return hasRule(rule) ? rows[rule] : main;
        }

        int mainSymbol(int position) {
            return main.at(position);
        }

        int wordLetters() {
            return wordLetters;
        }

        int lettersOfRule(int rule) {
            return hasRule(rule) ? letters[rule] : 0;
        }

        int depthOfRule(int rule) {
            return hasRule(rule) ? depths[rule] : 0;
        }

        int usesOf(int rule) {
            return hasRule(rule) ? uses[rule] : 0;
        }

        int lettersOfSymbol(int symbol) {
            int rule = symbol - LETTERS;
            return rule >= 0 && rule < rules && rule < letters.length ? letters[rule] : 1;
        }

        int totalSize() {
            int size = main.size();
            for (int rule = 0; rule < rules; rule++) {
                size += ruleRow(rule).size();
            }
            return size;
        }

        int deepest() {
            int depth = 0;
            for (int rule = 0; rule < rules; rule++) {
                depth = Math.max(depth, depthOfRule(rule));
            }
            return depth;
        }

        int unusedRules() {
            int unused = 0;
            for (int rule = 0; rule < rules; rule++) {
                unused += usesOf(rule) == 0 ? 1 : 0;
            }
            return unused;
        }

        boolean tellsTooMuch() {
            for (int rule = 0; rule < rules; rule++) {
                if (lettersOfRule(rule) > MOST_LETTERS) {
                    return true;
                }
            }
            return wordLetters > MOST_LETTERS;
        }

        void measure() {
            Arrays.fill(uses, 0);
            // In a rule's row only rules of lower numbers stand, which are measured by then.
            for (int rule = 0; rule < rules && rule < rows.length; rule++) {
                letters[rule] = lettersAhead(rows[rule], rows[rule].size());
                depths[rule] = depthOfRow(rows[rule]);
                noteUses(rows[rule]);
            }
            wordLetters = lettersAhead(main, main.size());
            noteUses(main);
        }

        private int depthOfRow(Row row) {
            int depth = 0;
            for (int position = 0; position < row.size(); position++) {
                depth = Math.max(depth, depthOfRule(row.at(position) - LETTERS));
            }
            return depth + 1;
        }

        private void noteUses(Row row) {
            for (int position = 0; position < row.size(); position++) {
                int rule = row.at(position) - LETTERS;
                if (hasRule(rule)) {
                    uses[rule]++;
                }
            }
        }

        // -- places

        /** How many letters the symbols of a row ahead of a position tell; a number that is too large is cut. */
        int lettersAhead(Row row, int position) {
            int ahead = 0;
            for (int before = 0; before < position && before < row.size(); before++) {
                ahead += lettersOfSymbol(row.at(before));
            }
            // A text that will be refused may tell far more: cut, no sum can overflow.
            return Math.min(ahead, MOST_LETTERS + 1);
        }

        /** Where in a row the symbol stands that tells a place of what the row tells; its end, if none does. */
        int positionOf(Row row, int place) {
            int ahead = 0;
            for (int position = 0; position < row.size(); position++) {
                ahead += lettersOfSymbol(row.at(position));
                if (ahead > place) {
                    return position;
                }
            }
            return row.size();
        }

        int positionInMain(int place) {
            return positionOf(main, place);
        }

        /** Whether a place is the first one that a symbol of the main row tells, or the end of the word. */
        boolean isBoundary(int place) {
            return lettersAhead(main, positionInMain(place)) == place;
        }

        /** Opens the main row until a letter of it tells a place; tells where, or TOO_MANY. */
        int openTo(int place) {
            // A symbol that is opened gives way to rules of lower numbers only.
            for (int opened = 0; opened <= MOST_RULES; opened++) {
                int position = positionInMain(place);
                int symbol = main.at(position);
                if (!isRule(symbol)) {
                    return position;
                }
                if (!main.open(position, ruleRow(symbol - LETTERS))) {
                    return TOO_MANY;
                }
            }
            return TOO_MANY;
        }

        // -- changes

        void setInMain(int position, int letter) {
            main.set(position, letter);
            measure();
        }

        boolean putIntoMain(int position, int letter) {
            boolean fits = main.putIn(position, letter);
            measure();
            return fits;
        }

        void takeFromMain(int position) {
            main.takeOut(position);
            measure();
        }

        /** The row of a new rule behind the others, empty yet; the main row if there can't be one more. */
        Row addRule() {
            if (rules >= rows.length) {
                return main;
            }
            Row row = rows[rules];
            row.clear();
            rules++;
            return row;
        }

        /** Folds the best pair so often, if it can be done so often; tells how often it was. */
        int foldUpTo(int times, Pairs pairs) {
            int folded = 0;
            while (folded < times && rules < MOST_RULES && pairs.findBest(main) && pairs.bestTimes() > 1) {
                int symbol = LETTERS + rules;
                Row row = addRule();
                row.add(pairs.bestFirst());
                row.add(pairs.bestSecond());
                main.foldPair(pairs.bestFirst(), pairs.bestSecond(), symbol);
                folded++;
            }
            measure();
            return folded;
        }

        /** Whether every row has room for the rule's row. */
        boolean canUnroll(int rule) {
            Row filling = ruleRow(rule);
            for (int user = rule + 1; user < rules; user++) {
                if (!ruleRow(user).canUnroll(LETTERS + rule, filling)) {
                    return false;
                }
            }
            return main.canUnroll(LETTERS + rule, filling);
        }

        void unrollRule(int rule) {
            if (!hasRule(rule)) {
                return;
            }
            Row gone = rows[rule];
            for (int user = rule + 1; user < rules && user < rows.length; user++) {
                rows[user].unrollSymbol(LETTERS + rule, gone);
                rows[user - 1] = rows[user];
            }
            main.unrollSymbol(LETTERS + rule, gone);
            rules--;
            rows[rules] = gone;
            measure();
        }

        /** Unrolls rules that are used less than twice, as long as one has room; tells how many. */
        int unrollSeldomUsed() {
            int unrolled = 0;
            int rule = lowestSeldomUsed();
            while (unrolled < MOST_RULES && rule != NONE) {
                unrollRule(rule);
                unrolled++;
                rule = lowestSeldomUsed();
            }
            return unrolled;
        }

        private int lowestSeldomUsed() {
            for (int rule = 0; rule < rules; rule++) {
                if (usesOf(rule) < 2 && canUnroll(rule)) {
                    return rule;
                }
            }
            return NONE;
        }
    }

    /** Counts the pairs of a row, and finds the best one. */
    private static final class Pairs {
        private final int[] times = new int[SYMBOLS * SYMBOLS];
        private int bestFirst = 0;
        private int bestSecond = 0;
        private int bestTimes = 0;

        int bestFirst() {
            return bestFirst;
        }

        int bestSecond() {
            return bestSecond;
        }

        int bestTimes() {
            return bestTimes;
        }

        /** False if the row has no pair. */
        boolean findBest(Row row) {
            countAll(row);
            bestTimes = 0;
            for (int position = 0; position + 1 < row.size(); position++) {
                int key = keyAt(row, position);
                // Only more is better: of several, the first one from the left stays.
                if (times[key] > bestTimes) {
                    bestFirst = row.at(position);
                    bestSecond = row.at(position + 1);
                    bestTimes = times[key];
                }
            }
            return bestTimes > 0;
        }

        private void countAll(Row row) {
            for (int position = 0; position + 1 < row.size(); position++) {
                times[keyAt(row, position)] = 0;
            }
            boolean counted = false;
            for (int position = 0; position + 1 < row.size(); position++) {
                // Only a pair of two that are the same can overlap itself.
                boolean overlaps = counted && keyAt(row, position - 1) == keyAt(row, position);
                counted = !overlaps;
                if (counted) {
                    times[keyAt(row, position)]++;
                }
            }
        }

        /** Where the pair at a position is counted; always an index of the counts. */
        private int keyAt(Row row, int position) {
            int key = row.at(position) * SYMBOLS + row.at(position + 1);
            return key >= 0 && key < times.length ? key : 0;
        }
    }

    /** The characters of a text. */
    private static final class Pad {
        private final int[] codes = new int[MOST_CHARACTERS];
        private int length = 0;

        int size() {
            return length;
        }

        int at(int index) {
            return index >= 0 && index < length && index < codes.length ? codes[index] : NONE;
        }

        void add(int code) {
            if (length < codes.length) {
                codes[length] = code;
                length++;
            }
        }

        void clear() {
            length = 0;
        }
    }

    /** Reads texts into grammars. */
    private static final class Reader {
        private static final int AHEAD_OF_ROW = 0;
        private static final int BEHIND_NAME = 1;
        private static final int AHEAD_OF_RULE = 2;
        private static final int IN_RULE = 3;
        private static final int IN_MAIN = 4;
        private static final int FAULTY = 5;

        private final Row rule = new Row();

        /** Makes the text of a pad the grammar; tells the fault, or NONE. */
        int read(Pad text, Grammar grammar) {
            grammar.clear();
            int state = AHEAD_OF_ROW;
            for (int index = 0; index < text.size(); index++) {
                state = next(state, text.at(index), grammar);
                if (state == FAULTY) {
                    return index;
                }
            }
            grammar.measure();
            return state == IN_MAIN ? NONE : text.size();
        }

        private int next(int state, int code, Grammar grammar) {
            switch (state) {
                case AHEAD_OF_ROW: return startRow(code, grammar);
                case BEHIND_NAME: return code == '=' ? AHEAD_OF_RULE : FAULTY;
                case AHEAD_OF_RULE: return grow(rule, code, grammar, IN_RULE);
                case IN_RULE: return code == ';' ? endRule(grammar) : grow(rule, code, grammar, IN_RULE);
                default: return grow(grammar.mainRow(), code, grammar, IN_MAIN);
            }
        }

        private int startRow(int code, Grammar grammar) {
            if (symbolOf(code) == LETTERS + grammar.ruleCount()) {
                rule.clear();
                return BEHIND_NAME;
            }
            return grow(grammar.mainRow(), code, grammar, IN_MAIN);
        }

        private int endRule(Grammar grammar) {
            grammar.addRule().copy(rule);
            return AHEAD_OF_ROW;
        }

        private int grow(Row row, int code, Grammar grammar, int state) {
            int symbol = symbolOf(code);
            return grammar.hasSymbol(symbol) && row.add(symbol) ? state : FAULTY;
        }

        private static int symbolOf(int code) {
            if (code >= 'a' && code < 'a' + LETTERS) {
                return code - 'a';
            }
            return code >= 'A' && code <= 'Z' ? LETTERS + code - 'A' : NONE;
        }
    }

    /** Sums over the whole word, made rule by rule so that it need not be told. */
    private static final class Tally {
        // What a symbol does to a mark: it is multiplied, and something is added.
        private final int[] factors = new int[SYMBOLS];
        private final int[] sums = new int[SYMBOLS];
        private int factor = 1;
        private int sum = 0;

        int markOfWord(Grammar grammar) {
            for (int letter = 0; letter < LETTERS; letter++) {
                factors[letter] = 31;
                sums[letter] = letter + 1;
            }
            sumRules(grammar);
            sumRow(grammar.mainRow(), 7);
            return sum;
        }

        int timesOfLetter(Grammar grammar, int asked) {
            for (int letter = 0; letter < LETTERS; letter++) {
                factors[letter] = 1;
                sums[letter] = letter == asked ? 1 : 0;
            }
            sumRules(grammar);
            sumRow(grammar.mainRow(), 0);
            return sum;
        }

        private void sumRules(Grammar grammar) {
            for (int rule = 0; rule < grammar.ruleCount() && rule < MOST_RULES; rule++) {
                sumRow(grammar.ruleRow(rule), 0);
                factors[LETTERS + rule] = factor;
                sums[LETTERS + rule] = sum;
            }
        }

        private void sumRow(Row row, int start) {
            factor = 1;
            sum = start;
            for (int position = 0; position < row.size(); position++) {
                int symbol = row.at(position);
                if (symbol >= 0 && symbol < SYMBOLS) {
                    sum = sum * factors[symbol] + sums[symbol];
                    factor *= factors[symbol];
                }
            }
        }
    }

    /** The way from the main row down to the letter at a place. */
    private static final class Path {
        private int foundLetter = 0;
        private int rulesPassed = 0;

        int foundLetter() {
            return foundLetter;
        }

        int rulesPassed() {
            return rulesPassed;
        }

        void follow(Grammar grammar, int place) {
            Row row = grammar.mainRow();
            int left = place;
            for (rulesPassed = 0; rulesPassed <= MOST_RULES; rulesPassed++) {
                int position = grammar.positionOf(row, left);
                foundLetter = row.at(position);
                if (!grammar.isRule(foundLetter)) {
                    return;
                }
                left -= grammar.lettersAhead(row, position);
                row = grammar.ruleRow(foundLetter - LETTERS);
            }
        }
    }

    /** Goes through the word of a grammar letter by letter. */
    private static final class Walk {
        // The rows that are open, each a rule or NONE for the main row, and where to go on in each.
        private final int[] rows = new int[MOST_RULES + 1];
        private final int[] positions = new int[MOST_RULES + 1];
        private int open = 0;

        void start() {
            open = 0;
            enter(NONE);
        }

        /** The next letter, or NONE at the end. */
        int next(Grammar grammar) {
            // Every rule tells a letter, so rows are only left and then only entered ahead of the next one.
            for (int step = 0; step < 3 * MOST_RULES; step++) {
                int inner = open - 1;
                if (inner < 0 || inner >= rows.length) {
                    return NONE;
                }
                int symbol = grammar.ruleRow(rows[inner]).at(positions[inner]);
                positions[inner]++;
                if (isLetter(symbol)) {
                    return symbol;
                }
                if (grammar.isRule(symbol)) {
                    enter(symbol - LETTERS);
                } else {
                    open--;
                }
            }
            return NONE;
        }

        private void enter(int row) {
            if (open >= 0 && open < rows.length) {
                rows[open] = row;
                positions[open] = 0;
                open++;
            }
        }
    }

    /** The states before the latest changes. */
    private static final class History {
        private final Grammar[] states = new Grammar[MOST_CHANGES];
        private int next = 0;
        private int kept = 0;

        History() {
            for (int index = 0; index < states.length; index++) {
                states[index] = new Grammar();
            }
        }

        int size() {
            return kept;
        }

        void record(Grammar grammar) {
            if (next >= 0 && next < states.length) {
                states[next].copy(grammar);
                next = (next + 1) % MOST_CHANGES;
                kept = Math.min(kept + 1, MOST_CHANGES);
            }
        }

        /** Makes a grammar what was recorded last, which is kept no more. */
        void takeBack(Grammar grammar) {
            int last = (next + MOST_CHANGES - 1) % MOST_CHANGES;
            if (kept > 0 && last >= 0 && last < states.length) {
                next = last;
                kept--;
                grammar.copy(states[last]);
            }
        }
    }
}
