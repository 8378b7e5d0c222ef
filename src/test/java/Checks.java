import java.util.function.Supplier;

/** What the tests of the promises have in common: checks that are counted, and grammars that are told as texts. */
abstract class Checks {
    static final int NO_SUCH = -1, BAD_VALUE = -2, BAD_TEXT = -3, TOO_MANY = -4, NOT_POSSIBLE = -5, NONE = -6;

    private static String about = "";
    private static int passed = 0;
    private static int failed = 0;

    /** A call of an object; it answers a number. */
    interface Call {
        long on(PairGrammars x);
    }

    // ---- checks

    /** Names what the checks that follow are about. */
    static void about(String what) {
        about = what;
    }

    static int checksMade() {
        return passed + failed;
    }

    private static void note(boolean good, String text) {
        if (good) {
            passed++;
        } else {
            failed++;
            System.out.println(about + ": " + text);
        }
    }

    static void due(String call, long got, long want) {
        note(got == want, call + " answered " + got + ", due is " + want);
    }

    static void due(String call, String got, String want) {
        note(got.equals(want), call + " is " + got + ", due is " + want);
    }

    static void grammarIs(String call, PairGrammars x, String want) {
        due("the grammar behind " + call, grammar(x), want);
    }

    /** A call that fails: it answers the code, and nothing is different behind it. */
    static void refused(String name, PairGrammars x, Call call, long want) {
        String before = everything(x);
        due(name, call.on(x), want);
        due(name + ", all that there is then", everything(x), before);
    }

    /** A call that fails: behind it, all goes on as with an object on which it was not made. */
    static void leavesNoTrace(String name, Supplier<PairGrammars> made, Call call, long want) {
        PairGrammars x = made.get();
        due(name, call.on(x), want);
        due(name + ", all that comes then", aftermath(x), aftermath(made.get()));
    }

    /** Tells how it went, and ends the run if a check failed. */
    static void close(String what) {
        System.out.println(what + ": " + passed + " answers as due, " + failed + " not");
        if (failed != 0) {
            System.exit(1);
        }
    }

    // ---- telling what there is

    static String row(PairGrammars x, int row) {
        StringBuilder text = new StringBuilder();
        for (int place = 0; x.symbol(row, place) >= 0; place++) {
            int symbol = x.symbol(row, place);
            text.append((char) (symbol < 8 ? 'a' + symbol : 'A' + symbol - 8));
        }
        return text.toString();
    }

    /** The grammar as a text. */
    static String grammar(PairGrammars x) {
        StringBuilder text = new StringBuilder();
        for (int rule = 0; rule < x.count(2); rule++) {
            text.append((char) ('A' + rule)).append('=').append(row(x, rule)).append(';');
        }
        return text.append(row(x, NONE)).toString();
    }

    static String word(PairGrammars x) {
        StringBuilder word = new StringBuilder();
        for (int place = 0; place < x.count(0); place++) {
            word.append((char) ('a' + x.letter(place)));
        }
        return word.toString();
    }

    static String everything(PairGrammars x) {
        StringBuilder all = new StringBuilder(grammar(x));
        for (int what = 0; what < 8; what++) {
            all.append(' ').append(x.count(what));
        }
        for (int rule = 0; rule < x.count(2); rule++) {
            all.append(' ').append(x.ofRule(rule, 1)).append(',').append(x.ofRule(rule, 2)).append(',').append(x.ofRule(rule, 3));
        }
        return all.append(' ').append(x.fault()).append(' ').append(x.unlike(0)).append(' ').append(x.unlike(1))
            .append(' ').append(x.mark()).toString();
    }

    /** All that can be found out about an object: the history, the pad and the slots are used up by it. */
    static String aftermath(PairGrammars x) {
        StringBuilder all = new StringBuilder(everything(x));
        for (int left = x.undo(); left >= 0; left = x.undo()) {
            all.append("\nundo ").append(left).append(' ').append(grammar(x));
        }
        all.append("\ntell ").append(x.tell()).append(' ').append(everything(x));
        for (int slot = 0; slot < 2; slot++) {
            all.append("\nrestore ").append(x.restore(slot)).append(' ').append(everything(x));
        }
        return all.toString();
    }

    // ---- making grammars

    static long packed(String text) {
        long number = 0;
        for (int i = 0; i < text.length(); i++) {
            number = number << 8 | text.charAt(i);
        }
        return number;
    }

    static void put(PairGrammars x, String text) {
        for (int i = 0; i < text.length(); i += 8) {
            x.put(packed(text.substring(i, Math.min(i + 8, text.length()))));
        }
    }

    static PairGrammars told(String text) {
        PairGrammars x = new PairGrammars();
        put(x, text);
        int letters = x.tell();
        if (letters < 0) {
            due("tell() of " + text, letters, 0);
        }
        return x;
    }

    /** A grammar with so many symbols in the main row, made more by letters at its end. */
    static PairGrammars filled(String text, int symbols) {
        PairGrammars x = told(text);
        while (x.count(1) < symbols) {
            x.insert(x.count(0), 7);
        }
        return x;
    }

    static String times(String text, int times) {
        return text.repeat(times);
    }

    /** The text of a word of 2 to 16383 letters, all a, told by rules that double. */
    static String doubled(int letters) {
        StringBuilder text = new StringBuilder("A=aa;");
        for (int rule = 1; letters >> rule > 1; rule++) {
            char before = (char) ('A' + rule - 1);
            text.append((char) (before + 1)).append('=').append(before).append(before).append(';');
        }
        for (int bit = 13; bit >= 0; bit--) {
            if ((letters >> bit & 1) == 1) {
                text.append(bit == 0 ? 'a' : (char) ('A' + bit - 1));
            }
        }
        return text.toString();
    }

    /** Sixteen rules, and a main row that can be folded more than ten times. */
    static PairGrammars manyRules() {
        StringBuilder text = new StringBuilder();
        for (char rule = 'A'; rule < 'Q'; rule++) {
            text.append(rule).append("=a;");
        }
        PairGrammars x = told(text + "ababcdcdefefghgh");
        for (String pairs : new String[] {"acac", "adad", "aeae", "afaf", "agag", "ahah", "bgbg"}) {
            for (int i = 0; i < 4; i++) {
                x.insert(x.count(0), pairs.charAt(i) - 'a');
            }
        }
        return x;
    }
}
