import java.util.function.Supplier;

/** Each sentence of the document that names a boundary case, with a test of its own that bears the sentence's words. */
public final class BoundaryTests extends Checks {
    private static final int LOWEST = Integer.MIN_VALUE, HIGHEST = Integer.MAX_VALUE;
    /** Refused alike wherever a number is asked for that begins with 0. */
    private static final int[] NEVER = {-1, -2, -5, -7, LOWEST, LOWEST + 1, LOWEST + 7, LOWEST + 8};
    /** Rules of 10, 100, 1000 and 10000 letters, of which the last is too much. */
    private static final String TOO_LONG = "A=aaaaaaaaaa;B=AAAAAAAAAA;C=BBBBBBBBBB;D=CCCCCCCCCC;";

    private static String section = "";
    private static int sentences = 0;

    /** Names the part of the document in which the sentences that follow stand. */
    private static void section(String name) {
        section = name;
    }

    private static void sentence(String words, Runnable test) {
        about(section + ", \"" + words + "\"");
        int before = checksMade();
        test.run();
        if (checksMade() == before) {
            due("how many checks are made", 0, 1);
        }
        sentences++;
    }

    // ---- grammars at an edge

    /** A full history, one slot, and a pad that can be told. */
    private static PairGrammars busy(String text) {
        PairGrammars x = told("A=gh;AfA");
        x.save(0);
        for (int place = 0; place < 5; place++) {
            x.insert(place, place);
        }
        put(x, text);
        x.tell();
        put(x, "A=ab;cA");
        return x;
    }

    /** As busy(), with so many symbols in the main row. */
    private static PairGrammars busyRow(String text, int symbols) {
        PairGrammars x = busy(text);
        while (x.count(1) < symbols) {
            x.insert(x.count(0), 7);
        }
        return x;
    }

    /** As busy(), with so many characters on the pad. */
    private static PairGrammars busyPad(int characters) {
        PairGrammars x = busy("A=ab;AA");
        x.wipe();
        put(x, times("a", characters));
        return x;
    }

    /** Two rules of 2 and 80 symbols; the first one is used once, in the row of the second one. */
    private static PairGrammars fullRule(String main) {
        PairGrammars x = told("A=cd;B=aaaaaaaaaa;C=BBBBBBBAhhhhhhhhh;" + main);
        x.unroll(1);
        return x;
    }

    /** Rules of one symbol each, so many that no text can tell one more. */
    private static String nineteenRules() {
        StringBuilder text = new StringBuilder("A=h;");
        for (char rule = 'B'; rule < 'T'; rule++) {
            text.append(rule).append('=').append((char) (rule - 1)).append(';');
        }
        return text.toString();
    }

    /** Twenty-six rules, each as deep as it can be. */
    private static PairGrammars deepest() {
        PairGrammars x = told(nineteenRules() + "SS");
        for (int letter = 6; letter >= 0; letter--) {
            x.insert(1, letter);
        }
        for (int letter = 0; letter < 7; letter++) {
            x.insert(x.count(0), letter);
        }
        x.fold(26);
        return x;
    }

    // ---- conventions

    private static void conventions() {
        section("Conventions");
        sentence("it names its errors in the order in which they are checked, and the first one that applies is returned", () -> {
            errorsOfChanges();
            errorsOfQuestions();
        });
        sentence("A call that returns an error changes nothing.", () -> {
            refusedChanges();
            refusedQuestions();
        });
        sentence("NONE (-6) is not an error; it is returned only if no error applies.", () -> {
            PairGrammars x = new PairGrammars();
            x.save(0);
            due("best(0) of an empty row", x.best(0), NONE);
            due("best(3) of an empty row", x.best(3), BAD_VALUE);
            due("unlike(0) of the same", x.unlike(0), NONE);
            due("unlike(2)", x.unlike(2), BAD_VALUE);
            due("unlike(1)", x.unlike(1), NOT_POSSIBLE);
        });
        sentence("Everything is numbered from 0.", () -> {
            PairGrammars x = told("A=ce;B=Ag;Bf");
            due("letter(0)", x.letter(0), 2);
            due("symbol(0, 0)", x.symbol(0, 0), 2);
            due("symbol(NONE, 0)", x.symbol(NONE, 0), 9);
            due("ofRule(0, 0)", x.ofRule(0, 0), 2);
            due("save(0)", x.save(0), 2);
        });
    }

    private static void errorsOfChanges() {
        PairGrammars x = new PairGrammars();
        put(x, TOO_LONG + "a=");
        due("tell() of a fault and too many letters", x.tell(), BAD_TEXT);
        due("fold(0) of an empty row", x.fold(0), BAD_VALUE);
        due("fold(27) of an empty row", x.fold(27), BAD_VALUE);
        due("unroll(1) where no rule has room", told("A=ab;" + times("A", 41)).unroll(1), NO_SUCH);
        PairGrammars full = filled("A=abc;A", 80);
        due("edit(82, 8) without room", full.edit(82, 8), NO_SUCH);
        due("edit(0, 8) without room", full.edit(0, 8), BAD_VALUE);
        due("edit(0, 0) without room", full.edit(0, 0), TOO_MANY);
        due("insert(83, 8) without room", full.insert(83, 8), NO_SUCH);
        due("insert(82, 8) without room", full.insert(82, 8), BAD_VALUE);
        due("insert(82, 0) without room", full.insert(82, 0), TOO_MANY);
        due("delete(82) without room", full.delete(82), NO_SUCH);
        due("delete(0) without room", full.delete(0), TOO_MANY);
        PairGrammars longest = told(doubled(9999));
        due("insert(10000, 8) of the longest word", longest.insert(10000, 8), NO_SUCH);
        due("insert(9999, 8) of the longest word", longest.insert(9999, 8), BAD_VALUE);
        due("insert(9999, 7) of the longest word", longest.insert(9999, 7), TOO_MANY);
        due("restore(2) with empty slots", x.restore(2), BAD_VALUE);
    }

    private static void errorsOfQuestions() {
        PairGrammars x = told("A=ab;A");
        due("symbol(1, 2)", x.symbol(1, 2), NO_SUCH);
        due("ofRule(1, 4)", x.ofRule(1, 4), NO_SUCH);
        due("ofRule(0, 4)", x.ofRule(0, 4), BAD_VALUE);
        due("best(3) of one symbol", x.best(3), BAD_VALUE);
        due("share(8) of the empty word", new PairGrammars().share(8), NO_SUCH);
        due("unlike(2) with empty slots", x.unlike(2), BAD_VALUE);
        due("put(32) on a full pad", busyPad(80).put(32), BAD_VALUE);
        due("put(97) on a full pad", busyPad(80).put('a'), TOO_MANY);
    }

    private static void refusedChanges() {
        Supplier<PairGrammars> made = () -> busy("A=ab;B=AAc;BAB");
        Supplier<PairGrammars> full = () -> busyRow("A=abc;A", 80);
        leavesNoTrace("fold(0)", made, x -> x.fold(0), BAD_VALUE);
        leavesNoTrace("fold(26)", made, x -> x.fold(26), NOT_POSSIBLE);
        leavesNoTrace("unroll(2)", made, x -> x.unroll(2), NO_SUCH);
        leavesNoTrace("unroll(0) without room", () -> busy("A=ab;" + times("A", 41)), x -> x.unroll(0), TOO_MANY);
        leavesNoTrace("edit(12, 0)", made, x -> x.edit(12, 0), NO_SUCH);
        leavesNoTrace("edit(0, 8)", made, x -> x.edit(0, 8), BAD_VALUE);
        leavesNoTrace("edit(0, 0) without room", full, x -> x.edit(0, 0), TOO_MANY);
        leavesNoTrace("insert(13, 0)", made, x -> x.insert(13, 0), NO_SUCH);
        leavesNoTrace("insert(0, 8)", made, x -> x.insert(0, 8), BAD_VALUE);
        leavesNoTrace("insert(1, 0) without room", full, x -> x.insert(1, 0), TOO_MANY);
        leavesNoTrace("insert(0, 0) of the longest word", () -> busy(doubled(9999)), x -> x.insert(0, 0), TOO_MANY);
        leavesNoTrace("delete(12)", made, x -> x.delete(12), NO_SUCH);
        leavesNoTrace("delete(0) without room", full, x -> x.delete(0), TOO_MANY);
        leavesNoTrace("restore(1)", made, x -> x.restore(1), NOT_POSSIBLE);
        leavesNoTrace("restore(2)", made, x -> x.restore(2), BAD_VALUE);
        refused("tell() of a faulty text", padded("A=ab;ABA"), PairGrammars::tell, BAD_TEXT);
        refused("tell() of a text that is too long", padded(TOO_LONG + "DA"), PairGrammars::tell, TOO_MANY);
        leavesNoTrace("undo() of nothing", PairGrammars::new, PairGrammars::undo, NOT_POSSIBLE);
    }

    /** As busy(), with another text on the pad. */
    private static PairGrammars padded(String text) {
        PairGrammars x = busy("A=ab;AA");
        x.wipe();
        put(x, text);
        return x;
    }

    private static void refusedQuestions() {
        Supplier<PairGrammars> made = () -> busy("A=ab;B=AAc;BAB");
        leavesNoTrace("letter(12)", made, x -> x.letter(12), NO_SUCH);
        leavesNoTrace("symbol(2, 0)", made, x -> x.symbol(2, 0), NO_SUCH);
        leavesNoTrace("ofRule(2, 0)", made, x -> x.ofRule(2, 0), NO_SUCH);
        leavesNoTrace("ofRule(0, 4)", made, x -> x.ofRule(0, 4), BAD_VALUE);
        leavesNoTrace("count(8)", made, x -> x.count(8), BAD_VALUE);
        leavesNoTrace("pair(10, 0)", made, x -> x.pair(10, 0), NO_SUCH);
        leavesNoTrace("best(3)", made, x -> x.best(3), BAD_VALUE);
        leavesNoTrace("share(8)", made, x -> x.share(8), NO_SUCH);
        leavesNoTrace("unlike(1)", made, x -> x.unlike(1), NOT_POSSIBLE);
        leavesNoTrace("unlike(2)", made, x -> x.unlike(2), BAD_VALUE);
        leavesNoTrace("opens(12)", made, x -> x.opens(12), NO_SUCH);
        leavesNoTrace("put(32)", made, x -> x.put(32), BAD_VALUE);
        leavesNoTrace("put of a bad code behind good ones", made, x -> x.put(packed("abcd ef")), BAD_VALUE);
        leavesNoTrace("put of eight on 73", () -> busyPad(73), x -> x.put(packed("bbbbbbbb")), TOO_MANY);
        leavesNoTrace("save(2)", made, x -> x.save(2), BAD_VALUE);
    }

    // ---- terms

    private static void grammars() {
        section("Grammars");
        sentence("Letters are a to h (the symbols 0 to 7)", () -> {
            PairGrammars x = told("ah");
            due("symbol(NONE, 0)", x.symbol(NONE, 0), 0);
            due("symbol(NONE, 1)", x.symbol(NONE, 1), 7);
            due("fault() of i", padded("i").fault(), 0);
            due("fault() of what is below a", padded("`").fault(), 0);
        });
        sentence("rules are A to Z (the symbols 8 to 33; the rule k, from 0 on, is the symbol 8 + k)", () -> {
            due("symbol(NONE, 0) of A", told("A=a;A").symbol(NONE, 0), 8);
            due("symbol(NONE, 1) of Z", deepest().symbol(NONE, 1), 33);
            due("fault() of what is below A", padded("@").fault(), 0);
            due("fault() of what is above Z", padded("[").fault(), 0);
        });
        sentence("A grammar has up to 26 rules", () -> {
            PairGrammars x = manyRules();
            due("fold(26)", x.fold(26), 10);
            due("count(2)", x.count(2), 26);
            due("a pair that comes twice is left", x.best(2), 2);
            due("fold(1)", x.fold(1), NOT_POSSIBLE);
        });
        sentence("numbered from 0 without gaps", () -> {
            PairGrammars x = told("A=a;B=bA;C=cA;BC");
            x.unroll(1);
            grammarIs("unroll(1)", x, "A=a;B=cA;bAB");
            due("ofRule(1, 0)", x.ofRule(1, 0), 2);
            due("ofRule(2, 0)", x.ofRule(2, 0), NO_SUCH);
        });
        rows();
        lengths();
    }

    private static void rows() {
        sentence("each with a row of 1 to 80 symbols", () -> {
            due("fault() of a row of none", padded("A=;a").fault(), 2);
            due("ofRule(0, 0) of a row of one", told("A=h;A").ofRule(0, 0), 1);
            PairGrammars x = told("A=ab;B=" + times("A", 40) + ";B");
            due("unroll(0)", x.unroll(0), 40);
            due("ofRule(0, 0) of a row of 80", x.ofRule(0, 0), 80);
            due("symbol(0, 79)", x.symbol(0, 79), 1);
            due("symbol(0, 80)", x.symbol(0, 80), NO_SUCH);
        });
        sentence("in which only letters and rules of lower numbers stand", () -> {
            due("fault() of a rule in its own row", padded("A=A;a").fault(), 2);
            due("fault() of a second rule in its own row", padded("A=a;B=B;a").fault(), 6);
            due("fault() of the next rule", padded("A=B;B=a;B").fault(), 2);
            due("fault() of a rule of a lower number", padded("A=a;B=A;B").fault(), NONE);
        });
        sentence("and the main row of 0 to 80 symbols", () -> {
            PairGrammars x = told("a");
            x.delete(0);
            due("count(1) of none", x.count(1), 0);
            due("symbol(NONE, 0) of none", x.symbol(NONE, 0), NO_SUCH);
            PairGrammars full = told(times("ab", 40));
            due("count(1)", full.count(1), 80);
            due("symbol(NONE, 79)", full.symbol(NONE, 79), 1);
            due("symbol(NONE, 80)", full.symbol(NONE, 80), NO_SUCH);
            due("insert(80, 0)", full.insert(80, 0), TOO_MANY);
        });
    }

    private static void lengths() {
        sentence("It has at most 9999 letters, and so has what a rule tells.", () -> {
            due("tell() of 9999", told(doubled(9999)).count(0), 9999);
            due("tell() of 10000", padded(doubled(10000)).tell(), TOO_MANY);
            due("a rule of 9999", told(ruleOf(9999) + "a").ofRule(13, 1), 9999);
            due("tell() of a rule of 10000", padded(ruleOf(10000) + "a").tell(), TOO_MANY);
        });
        sentence("The size of a grammar is how many symbols stand in all its rows.", () -> {
            due("count(3) of no row", new PairGrammars().count(3), 0);
            PairGrammars x = told("A=abc;B=A;h");
            due("count(3)", x.count(3), 5);
            x.delete(0);
            due("count(3) of an empty main row", x.count(3), 4);
        });
        sentence("A rule is used as often as its symbol stands in all rows.", () -> {
            PairGrammars x = told("A=a;B=AbA;C=BBAB;" + times("A", 59) + "C");
            due("ofRule(0, 2)", x.ofRule(0, 2), 62);
            due("ofRule(1, 2)", x.ofRule(1, 2), 3);
            due("ofRule(2, 2)", x.ofRule(2, 2), 1);
            PairGrammars unused = told("A=a;B=AA;a");
            due("ofRule(0, 2) in the row of a rule that is not used", unused.ofRule(0, 2), 2);
            due("ofRule(1, 2) of a rule that is not used", unused.ofRule(1, 2), 0);
        });
    }

    /** The text of thirteen rules that double, and a fourteenth one that tells so many letters. */
    private static String ruleOf(int letters) {
        String text = doubled(letters);
        int main = text.lastIndexOf(';') + 1;
        return text.substring(0, main) + "N=" + text.substring(main) + ";";
    }

    private static void pairs() {
        section("Pairs");
        sentence("A pair is two symbols side by side in the main row.", () -> {
            due("best(2) of no symbol", new PairGrammars().best(2), NONE);
            due("best(2) of one symbol", told("A=abab;A").best(2), NONE);
            due("best(2) of two symbols", told("A=abab;AA").best(2), 1);
            due("pair(0, 1) of a rule's row", told("A=abab;AA").pair(0, 1), 0);
            lastSymbolHasNoPair();
        });
        sentence("How often it comes is counted from the left, without overlapping (aaa has the pair aa once).", () -> {
            for (int letters = 0; letters <= 80; letters++) {
                PairGrammars x = filled("h", Math.max(1, letters));
                if (letters == 0) {
                    x.delete(0);
                }
                due("pair(7, 7) of " + letters, x.pair(7, 7), letters / 2);
            }
            due("pair(0, 0) of two runs of three", told("aaabaaa").pair(0, 0), 2);
        });
        sentence("The best pair is the one that comes the most often, of several the one that comes first from the left.", () -> {
            PairGrammars tie = told("cdabcdab");
            due("best(0) of several", tie.best(0), 2);
            due("best(1) of several", tie.best(1), 3);
            PairGrammars last = told("abcdefghgh");
            due("best(0) of the last one", last.best(0), 6);
            due("best(2) of the last one", last.best(2), 2);
            due("best(1) of aab, each once", told("aab").best(1), 0);
            due("best(1) of aaabab, overlapping", told("aaabab").best(1), 1);
        });
        sentence("to put that rule's symbol in its place, from the left, as often as it comes", () -> {
            PairGrammars x = told("aaaaa");
            x.fold(1);
            grammarIs("fold(1) of aaaaa", x, "A=aa;AAa");
            PairGrammars full = told(times("ab", 40));
            full.fold(1);
            grammarIs("fold(1) of 80 symbols", full, "A=ab;" + times("A", 40));
        });
        sentence("then the rule is gone, and those behind it have numbers that are less by 1 (so have their symbols)", () -> {
            PairGrammars first = told("A=ab;B=cA;C=BA;CBA");
            first.unroll(0);
            grammarIs("unroll(0), the first", first, "A=cab;B=Aab;BAab");
            PairGrammars last = told("A=ab;B=cA;C=BA;CBA");
            last.unroll(2);
            grammarIs("unroll(2), the last", last, "A=ab;B=cA;BABA");
            PairGrammars only = told("A=ab;A");
            only.unroll(0);
            grammarIs("unroll(0), the only one", only, "ab");
        });
    }

    /** Rules of high numbers: what stands behind the last symbol must not be taken for one of them, nor what stood there. */
    private static void lastSymbolHasNoPair() {
        PairGrammars x = told(nineteenRules() + "SabS");
        x.insert(4, 0);
        x.insert(5, 1);
        x.fold(2);
        x.insert(3, 0);
        x.insert(7, 1);
        due("the main row is UaUb", row(x, NONE), "UaUb");
        due("best(2) of UaUb", x.best(2), 1);
        refused("fold(1) of UaUb", x, y -> y.fold(1), NOT_POSSIBLE);
        x.insert(0, 0);
        due("best(2) of aUaUb", x.best(2), 2);
        x.delete(0);
        x.delete(3);
        due("the main row is UUb", row(x, NONE), "UUb");
        due("best(2) of UUb", x.best(2), 1);
        refused("fold(1) of UUb", x, y -> y.fold(1), NOT_POSSIBLE);
    }

    private static void texts() {
        section("Texts");
        sentence("The pad is a text of at most 80 characters", () -> {
            PairGrammars x = busyPad(79);
            due("put of the 80th", x.put('b'), 80);
            due("put of the 81st", x.put('b'), TOO_MANY);
            due("tell() of 80", x.tell(), 80);
            due("letter(79)", x.letter(79), 1);
        });
        sentence("The rules are told in order: \"A\" first, and so on", () -> {
            due("fault() of B first", padded("B=a;B").fault(), 0);
            due("fault() of C second", padded("A=a;C=a;C").fault(), 4);
            due("fault() of A again", padded("A=a;A=a;A").fault(), 5);
            due("fault() of nineteen rules", padded(nineteenRules() + "SSSS").fault(), NONE);
            due("fault() of nineteen rules and U", padded(nineteenRules() + "U").fault(), 76);
        });
        sentence("in a row the letters \"a\" to \"h\", and rules told ahead of it, can stand", () -> {
            due("fault() of a and h", padded("A=ah;Aah").fault(), NONE);
            due("fault() of i in a rule", padded("A=ai;a").fault(), 3);
            due("fault() of what is below a in a rule", padded("A=a`;a").fault(), 3);
            due("fault() of a rule that is not told", padded("A=a;aB").fault(), 5);
            due("fault() of a rule that is told", padded("A=a;B=b;aB").fault(), NONE);
        });
        sentence("So the letter of the next rule can stand only where a row would begin, and \"=\" has to come behind it.", () -> {
            due("fault() within the main row", padded("A=a;AB=b;a").fault(), 5);
            due("fault() where a rule's row begins", padded("A=B").fault(), 2);
            due("fault() without =", padded("A=a;BA").fault(), 5);
            due("fault() of = behind the main row's letter", padded("a=b").fault(), 1);
            due("fault() of = behind a rule that is told", padded("A=a;A=").fault(), 5);
        });
        sentence("if there is none and the text ends too early (also if it is empty), it is the length of the text", () -> {
            String text = "A=ab;B=AA;";
            for (int length = 0; length <= text.length(); length++) {
                due("fault() of " + length + " characters", padded(text.substring(0, length)).fault(), length);
            }
            due("fault() of one more", padded(text + "B").fault(), NONE);
            due("fault() of 80 characters that end too early", padded("A=" + times("a", 78)).fault(), 80);
        });
    }

    // ---- promises 1 to 8

    private static void newObject() {
        section("Promise 1");
        sentence("Creates a grammar that tells the empty word.", () -> {
            PairGrammars x = new PairGrammars();
            due("count(0)", x.count(0), 0);
            due("letter(0)", x.letter(0), NO_SUCH);
            due("mark()", x.mark(), 7);
            due("undo()", x.undo(), NOT_POSSIBLE);
            due("restore(0)", x.restore(0), NOT_POSSIBLE);
            due("restore(1)", x.restore(1), NOT_POSSIBLE);
        });
        section("Grammars");
        sentence("At first there are no rules, and the main row is empty.", () -> {
            PairGrammars x = new PairGrammars();
            due("count(1)", x.count(1), 0);
            due("count(2)", x.count(2), 0);
            due("ofRule(0, 0)", x.ofRule(0, 0), NO_SUCH);
            due("symbol(0, 0)", x.symbol(0, 0), NO_SUCH);
            due("symbol(NONE, 0)", x.symbol(NONE, 0), NO_SUCH);
        });
    }

    private static void tell() {
        section("Promise 2");
        sentence("The text of the pad becomes the grammar; the pad is emptied.", () -> {
            PairGrammars x = busyPad(80);
            due("tell()", x.tell(), 80);
            due("count(6)", x.count(6), 0);
            due("put of eight on what was full", x.put(packed("abcdefgh")), 8);
            due("count(2), the old rules are gone", x.count(2), 0);
        });
        sentence("BAD_TEXT if the pad has a fault", () -> {
            for (String text : new String[] {"", "A", "A=a;", "i", "aA", "A=;a", times("a", 79) + ";"}) {
                refused("tell() of '" + text + "'", padded(text), PairGrammars::tell, BAD_TEXT);
            }
        });
        sentence("TOO_MANY if the word, or what a rule tells, would have more than 9999 letters", () -> {
            refused("tell() of a word of 10000", padded(doubled(10000)), PairGrammars::tell, TOO_MANY);
            due("tell() of a word of 9999", padded(doubled(9999)).tell(), 9999);
            refused("tell() of a last rule that is too long", padded(TOO_LONG + "a"), PairGrammars::tell, TOO_MANY);
            refused("tell() of an inner rule that is too long", padded(TOO_LONG + "E=a;a"), PairGrammars::tell, TOO_MANY);
            due("tell() of rules that are long together", padded(ruleOf(9999) + "Na").tell(), TOO_MANY);
            due("tell() of the longest rule", padded(ruleOf(9999) + "N").tell(), 9999);
            due("tell() of the longest rule, not used", padded(ruleOf(9999) + "a").tell(), 1);
            refused("tell() of millions", padded(millions()), PairGrammars::tell, TOO_MANY);
        });
    }

    /** The text of the longest word that 80 characters tell: ten rules of five, and five of the last. */
    private static String millions() {
        StringBuilder text = new StringBuilder("A=aaaaa;");
        for (char rule = 'B'; rule < 'J'; rule++) {
            text.append(rule).append('=').append(times(String.valueOf((char) (rule - 1)), 5)).append(';');
        }
        return text + "IIIIIIII";
    }

    private static void fold() {
        section("Promise 3");
        sentence("times: 1 to 26", () -> {
            due("fold(1)", told("abababcdcdcd").fold(1), 1);
            due("fold(26)", told("abababcdcdcd").fold(26), 2);
            for (int times : new int[] {0, 27, -1, LOWEST, HIGHEST}) {
                refused("fold(" + times + ")", busy("abababcdcdcd"), x -> x.fold(times), BAD_VALUE);
            }
        });
        sentence("until there is no pair that comes twice", () -> {
            PairGrammars x = told("abcabcabc");
            due("fold(26)", x.fold(26), 2);
            grammarIs("fold(26)", x, "A=ab;B=Ac;BBB");
            due("best(2) of BBB", x.best(2), 1);
        });
        sentence("or there are 26 rules", () -> {
            PairGrammars x = manyRules();
            due("fold(9)", x.fold(9), 9);
            due("fold(2) with 25 rules", x.fold(2), 1);
            refused("fold(1) with 26 rules", x, y -> y.fold(1), NOT_POSSIBLE);
        });
        sentence("NOT_POSSIBLE if it would be never", () -> {
            for (String text : new String[] {"a", "aa", "aaa", "ab", "abcdefgh", "aba", "A=abab;A", "A=abab;AA", "A=abab;AAA"}) {
                refused("fold(26) of " + text, busy(text), x -> x.fold(26), NOT_POSSIBLE);
            }
            refused("fold(1) of a new object", new PairGrammars(), x -> x.fold(1), NOT_POSSIBLE);
            due("fold(1) of aaaa", told("aaaa").fold(1), 1);
        });
    }

    private static void unroll() {
        section("Promise 4");
        sentence("Returns how often it was used", () -> {
            PairGrammars unused = told("A=ab;B=cA;c");
            due("unroll(1), never", unused.unroll(1), 0);
            grammarIs("unroll(1)", unused, "A=ab;c");
            due("unroll(0), once", told("A=ab;A").unroll(0), 1);
            due("unroll(0), in other rules", told("A=ab;B=AcA;C=AB;a").unroll(0), 3);
            due("unroll(0), 76 times", told("A=a;" + times("A", 76)).unroll(0), 76);
        });
        sentence("NO_SUCH if there is no such rule", () -> {
            refused("unroll(0) of a new object", new PairGrammars(), x -> x.unroll(0), NO_SUCH);
            refused("unroll(2) of two", busy("A=a;B=b;AB"), x -> x.unroll(2), NO_SUCH);
            for (int rule : new int[] {NONE, -1, 8, 26, LOWEST, HIGHEST}) {
                refused("unroll(" + rule + ")", busy("A=a;B=b;AB"), x -> x.unroll(rule), NO_SUCH);
            }
            refused("unroll(26) of 26", deepest(), x -> x.unroll(26), NO_SUCH);
            due("unroll(25) of 26", deepest().unroll(25), 2);
        });
        sentence("TOO_MANY if a row would have more than 80 symbols", () -> {
            PairGrammars full = told("A=ab;" + times("A", 40));
            due("unroll(0) to 80 in the main row", full.unroll(0), 40);
            due("count(1)", full.count(1), 80);
            refused("unroll(0) to 81 in the main row", busy("A=ab;" + times("A", 40) + "c"), x -> x.unroll(0), TOO_MANY);
            due("unroll(0) to 80 in a rule", told("A=ab;B=" + times("A", 40) + ";B").unroll(0), 40);
            refused("unroll(0) to 81 in a rule", busy("A=ab;B=c" + times("A", 40) + ";B"), x -> x.unroll(0), TOO_MANY);
            refused("unroll(0) to 81 in the last rule", busy("A=ab;B=A;C=c" + times("A", 40) + ";B"), x -> x.unroll(0), TOO_MANY);
            due("unroll(0) of one symbol in a full row", filled("A=a;A", 80).unroll(0), 1);
            due("unroll(0), not used, beside a full row", filled("A=ab;a", 80).unroll(0), 0);
        });
    }

    private static void prune() {
        section("Promise 5");
        sentence("Unrolls rules that are used less than twice", () -> {
            PairGrammars x = told("A=ab;B=cd;C=ef;AABc");
            due("prune() of twice, once and never", x.prune(), 2);
            grammarIs("prune()", x, "A=ab;AAcdc");
        });
        sentence("each time the lowest one of those by which no row would have more than 80 symbols", () -> {
            PairGrammars exact = filled("A=ab;B=c;A", 79);
            due("prune() to 80", exact.prune(), 2);
            due("count(1)", exact.count(1), 80);
            due("prune() to 81", filled("A=ab;A", 80).prune(), 0);
            PairGrammars both = filled("A=ab;B=cd;AB", 79);
            due("prune() with room for one of two", both.prune(), 1);
            grammarIs("prune(), the lowest", both, "A=cd;abA" + times("h", 77));
            PairGrammars second = filled("A=abc;B=cd;AB", 79);
            due("prune() with room for the second one", second.prune(), 1);
            grammarIs("prune(), the second", second, "A=abc;Acd" + times("h", 77));
            PairGrammars inRule = fullRule("C");
            due("prune() where a rule's row is full", inRule.prune(), 1);
            due("count(1)", inRule.count(1), 80);
            due("the rule that has no room stays", inRule.ofRule(0, 2), 1);
            due("prune() where both rows are full", fullRule("CC").prune(), 0);
        });
        sentence("until there is none", () -> {
            PairGrammars chain = told("A=ab;B=AA;C=Bc;AA");
            due("prune() of what is not used by then", chain.prune(), 2);
            grammarIs("prune()", chain, "A=ab;AA");
            PairGrammars one = told("A=ab;B=Ac;A");
            due("prune() of what is used once by then", one.prune(), 2);
            grammarIs("prune()", one, "ab");
        });
        sentence("Returns how many are unrolled.", () -> {
            due("prune() of a new object", new PairGrammars().prune(), 0);
            due("prune() of nineteen", told(nineteenRules() + "S").prune(), 19);
            PairGrammars x = deepest();
            x.delete(8);
            due("prune() of 26", x.prune(), 26);
            due("count(2)", x.count(2), 0);
        });
    }

    private static void edit() {
        section("Promise 6");
        sentence("and so on, until the letter stands in the main row (also if it is the letter already that it becomes)", () -> {
            PairGrammars x = told("A=ab;B=AA;C=BB;CC");
            due("edit(8, 0) of the letter that it is", x.edit(8, 0), 0);
            grammarIs("edit(8, 0)", x, "A=ab;B=AA;C=BB;CabAB");
            due("edit(15, 7), the last", x.edit(15, 7), 1);
            grammarIs("edit(15, 7)", x, "A=ab;B=AA;C=BB;CabAAah");
            due("edit(0, 7), the first", x.edit(0, 7), 0);
            grammarIs("edit(0, 7)", x, "A=ab;B=AA;C=BB;hbABabAAah");
            due("edit(0, 6) of a letter", x.edit(0, 6), 7);
            due("count(1) where nothing is opened", x.count(1), 10);
        });
        sentence("place: a place in the word, from 0 on", () -> {
            for (int place = 0; place < 4; place++) {
                due("edit(" + place + ", 7)", told("A=ab;AA").edit(place, 7), place % 2);
            }
            due("edit(9998, 7) of the longest word", told(doubled(9999)).edit(9998, 7), 0);
        });
        sentence("NO_SUCH if there is no such place", () -> places((x, place) -> x.edit(place, 0), 0));
        sentence("letter: 0 to 7", () -> letters((x, letter) -> x.edit(2, letter)));
        sentence("TOO_MANY if the main row would have more than 80 symbols", () -> {
            due("edit(0, 0) to 80", filled("A=abc;A", 78).edit(0, 7), 0);
            refused("edit(0, 0) to 81", busyRow("A=abc;A", 79), x -> x.edit(0, 7), TOO_MANY);
            refused("edit(0, 0) to 81 by the second rule", busyRow("A=ab;B=Ac;B", 79), x -> x.edit(0, 7), TOO_MANY);
            due("edit(2, 0) to 80 by the first one alone", filled("A=ab;B=Ac;B", 79).edit(2, 7), 2);
            due("edit(0, 0) of a rule of one symbol in a full row", filled("A=a;A", 80).edit(0, 7), 0);
            due("edit(79, 0) of a letter in a full row", filled("A=abc;aA", 80).edit(81, 0), 7);
        });
    }

    private interface WithNumber {
        long on(PairGrammars x, int number);
    }

    /** Places that there are not, of words of none, one and many letters; a call may also go to the place behind the end. */
    private static void places(WithNumber call, int behind) {
        for (int place : NEVER) {
            refused("at " + place, busy("A=ab;AA"), x -> call.on(x, place), NO_SUCH);
        }
        refused("at -6", busy("A=ab;AA"), x -> call.on(x, NONE), NO_SUCH);
        refused("at the highest number", busy("A=ab;AA"), x -> call.on(x, HIGHEST), NO_SUCH);
        refused("behind four letters", busy("A=ab;AA"), x -> call.on(x, 4 + behind), NO_SUCH);
        refused("behind one letter", busy("a"), x -> call.on(x, 1 + behind), NO_SUCH);
        refused("behind no letter", new PairGrammars(), x -> call.on(x, behind), NO_SUCH);
        refused("behind 9999 letters", told(doubled(9999)), x -> call.on(x, 9999 + behind), NO_SUCH);
        due("a refusal at the last place", call.on(busy("A=ab;AA"), 3) < 0 ? 1 : 0, 0);
        due("a refusal at the first place", call.on(busy("A=ab;AA"), 0) < 0 ? 1 : 0, 0);
    }

    /** Letters that there are and are not. */
    private static void letters(WithNumber call) {
        for (int letter : NEVER) {
            refused("the letter " + letter, busy("A=ab;AA"), x -> call.on(x, letter), BAD_VALUE);
        }
        for (int letter : new int[] {NONE, 8, 9, 33, HIGHEST}) {
            refused("the letter " + letter, busy("A=ab;AA"), x -> call.on(x, letter), BAD_VALUE);
        }
        for (int letter = 0; letter < 8; letter++) {
            PairGrammars x = told("A=ab;AA");
            call.on(x, letter);
            due("letter(2) behind the letter " + letter, x.letter(2), letter);
        }
    }

    private static void insert() {
        section("Promise 7");
        sentence("Puts a letter into the word ahead of a place, or at its end.", () -> {
            PairGrammars x = new PairGrammars();
            due("insert(0, 2) into the empty word", x.insert(0, 2), 1);
            due("insert(1, 3) at the end", x.insert(1, 3), 2);
            due("insert(0, 1) ahead of all", x.insert(0, 1), 3);
            grammarIs("insert()", x, "bcd");
            PairGrammars rules = told("A=ab;A");
            due("insert(2, 7) behind a rule", rules.insert(2, 7), 3);
            grammarIs("insert(2, 7)", rules, "A=ab;Ah");
        });
        sentence("but if the place is the first one that a symbol of the main row tells, as that is ahead of it, nothing is opened", () -> {
            PairGrammars x = told("A=ab;B=AA;BB");
            x.insert(0, 7);
            grammarIs("insert(0, 7), the first of the first", x, "A=ab;B=AA;hBB");
            x.insert(5, 7);
            grammarIs("insert(5, 7), the first of the second", x, "A=ab;B=AA;hBhB");
            x.insert(9, 7);
            grammarIs("insert(9, 7), the last of the second", x, "A=ab;B=AA;hBhAahb");
        });
        sentence("The symbol that tells the place is opened as by edit(), until the letter stands in the main row", () -> {
            PairGrammars x = told("A=ab;B=AA;BB");
            x.insert(2, 7);
            grammarIs("insert(2, 7), the first of an inner rule", x, "A=ab;B=AA;AhabB");
            x.insert(1, 6);
            grammarIs("insert(1, 6)", x, "A=ab;B=AA;agbhabB");
        });
        sentence("place: 0 to how many letters the word has", () -> {
            for (int place = 0; place <= 4; place++) {
                PairGrammars x = told("A=ab;AA");
                due("insert(" + place + ", 7)", x.insert(place, 7), 5);
                due("the word", word(x), "abab".substring(0, place) + "h" + "abab".substring(place));
            }
            due("insert(5, 7)", told("A=ab;AA").insert(5, 7), NO_SUCH);
        });
        sentence("NO_SUCH if there is no such place", () -> places((x, place) -> x.insert(place, 0), 1));
        sentence("letter: 0 to 7", () -> letters((x, letter) -> x.insert(2, letter)));
        insertTooMany();
    }

    private static void insertTooMany() {
        sentence("TOO_MANY if the main row would have more than 80 symbols", () -> {
            due("insert(0, 0) to 80", filled("A=ab;A", 79).insert(0, 0), 81);
            due("insert(1, 0) to 80, opened", filled("A=ab;A", 78).insert(1, 0), 80);
            for (int place : new int[] {0, 2, 80, 81}) {
                refused("insert(" + place + ", 0) to 81", busyRow("A=ab;A", 80), x -> x.insert(place, 0), TOO_MANY);
            }
            refused("insert(1, 0) to 81, opened", busyRow("A=ab;A", 79), x -> x.insert(1, 0), TOO_MANY);
            refused("insert(1, 0) to 82, opened", busyRow("A=ab;A", 80), x -> x.insert(1, 0), TOO_MANY);
        });
        sentence("or the word more than 9999 letters", () -> {
            for (int place : new int[] {0, 1, 4096, 9998}) {
                due("insert(" + place + ", 1) to 9999", told(doubled(9998)).insert(place, 1), 9999);
            }
            for (int place : new int[] {0, 1, 4096, 9999}) {
                refused("insert(" + place + ", 1) to 10000", busy(doubled(9999)), x -> x.insert(place, 1), TOO_MANY);
            }
        });
    }

    private static void delete() {
        section("Promise 8");
        sentence("Takes a letter out of the word (opened as by edit()).", () -> {
            PairGrammars x = told("A=ab;B=AA;BB");
            due("delete(4), the first of a rule", x.delete(4), 0);
            grammarIs("delete(4)", x, "A=ab;B=AA;BbA");
            due("delete(6), the last", x.delete(6), 1);
            grammarIs("delete(6)", x, "A=ab;B=AA;Bba");
            due("delete(0), the first", x.delete(0), 0);
            grammarIs("delete(0)", x, "A=ab;B=AA;bAba");
            PairGrammars one = told("A=h;A");
            due("delete(0), the only one", one.delete(0), 7);
            grammarIs("delete(0)", one, "A=h;");
            due("count(0)", one.count(0), 0);
        });
        sentence("NO_SUCH if there is no such place", () -> places(PairGrammars::delete, 0));
        sentence("TOO_MANY if the main row would have more than 80 symbols on the way", () -> {
            refused("delete(0), 81 on the way and 80 then", busyRow("A=ab;A", 80), x -> x.delete(0), TOO_MANY);
            due("delete(0), 80 on the way", filled("A=ab;A", 79).delete(0), 0);
            due("delete(0) of a rule of one symbol in a full row", filled("A=a;A", 80).delete(0), 0);
            PairGrammars full = filled("A=ab;A", 80);
            due("delete(80) of a letter in a full row", full.delete(80), 7);
            due("count(1)", full.count(1), 79);
        });
    }

    // ---- promises 9 to 17

    private static void questions() {
        section("Promise 9");
        sentence("NO_SUCH if there is no such place", () -> {
            places(PairGrammars::letter, 0);
            PairGrammars x = told(doubled(9998) + "h");
            due("letter(9998), the last of the longest word", x.letter(9998), 7);
            due("letter(9997)", x.letter(9997), 0);
        });
        section("Promise 10");
        sentence("row: a rule, or NONE for the main row", () -> {
            PairGrammars x = told("A=ab;B=cd;ef");
            due("symbol(0, 0)", x.symbol(0, 0), 0);
            due("symbol(1, 0)", x.symbol(1, 0), 2);
            due("symbol(NONE, 0)", x.symbol(NONE, 0), 4);
        });
        sentence("NO_SUCH if there is no such rule or place", () -> {
            PairGrammars x = told("A=ab;B=cde;f");
            for (int number : NEVER) {
                due("symbol(" + number + ", 0)", x.symbol(number, 0), NO_SUCH);
                due("symbol(0, " + number + ")", x.symbol(0, number), NO_SUCH);
                due("symbol(NONE, " + number + ")", x.symbol(NONE, number), NO_SUCH);
            }
            int[][] ats = {{2, 0}, {8, 0}, {26, 0}, {HIGHEST, 0}, {0, 2}, {1, 3}, {NONE, 1}, {NONE, 80}, {0, NONE}, {0, HIGHEST}};
            for (int[] at : ats) {
                due("symbol(" + at[0] + ", " + at[1] + ")", x.symbol(at[0], at[1]), NO_SUCH);
            }
            due("symbol(1, 2), the last", x.symbol(1, 2), 4);
            due("symbol(25, 1) of 26", deepest().symbol(25, 1), 6);
            due("symbol(26, 0) of 26", deepest().symbol(26, 0), NO_SUCH);
        });
        ofRule();
        count();
    }

    private static void ofRule() {
        section("Promise 11");
        sentence("3 how deep it is: 1 more than the deepest rule in its row, 1 if there is none", () -> {
            PairGrammars x = told("A=a;B=AbA;C=aBA;D=hA;DC");
            int[] depths = {1, 2, 3, 2};
            for (int rule = 0; rule < depths.length; rule++) {
                due("ofRule(" + rule + ", 3)", x.ofRule(rule, 3), depths[rule]);
            }
            due("ofRule(25, 3), the deepest", deepest().ofRule(25, 3), 26);
        });
        sentence("NO_SUCH if there is no such rule", () -> {
            PairGrammars x = told("A=ab;B=cde;f");
            for (int rule : NEVER) {
                due("ofRule(" + rule + ", 0)", x.ofRule(rule, 0), NO_SUCH);
            }
            for (int rule : new int[] {NONE, 2, 8, 26, HIGHEST}) {
                due("ofRule(" + rule + ", 0)", x.ofRule(rule, 0), NO_SUCH);
            }
            due("ofRule(0, 0) of a new object", new PairGrammars().ofRule(0, 0), NO_SUCH);
            due("ofRule(26, 3) of 26", deepest().ofRule(26, 3), NO_SUCH);
        });
        sentence("BAD_VALUE if what is out of range", () -> {
            PairGrammars x = told("A=ab;B=cde;f");
            for (int what : NEVER) {
                due("ofRule(1, " + what + ")", x.ofRule(1, what), BAD_VALUE);
            }
            for (int what : new int[] {NONE, 4, 5, HIGHEST}) {
                due("ofRule(1, " + what + ")", x.ofRule(1, what), BAD_VALUE);
            }
        });
    }

    private static void count() {
        section("Promise 12");
        sentence("4 the depth of the deepest rule (0 without any)", () -> {
            due("count(4) without any", told("a").count(4), 0);
            due("count(4) of one", told("A=a;a").count(4), 1);
            due("count(4) of a lower rule", told("A=a;B=A;C=c;C").count(4), 2);
            due("count(4) of 26", deepest().count(4), 26);
        });
        sentence("5 rules that are not used", () -> {
            due("count(5) without any", told("a").count(5), 0);
            due("count(5) of rules used in one that is not", told("A=a;B=A;C=B;a").count(5), 1);
            due("count(5) of all", told("A=a;B=b;C=c;a").count(5), 3);
        });
        sentence("6 the length of the pad, 7 how many changes can be undone", () -> {
            PairGrammars x = new PairGrammars();
            due("count(6) of an empty pad", x.count(6), 0);
            due("count(6) of a full pad", busyPad(80).count(6), 80);
            due("count(7) of no change", x.count(7), 0);
            due("count(7) of more than six", busy("a").count(7), 6);
        });
        sentence("BAD_VALUE if what is out of range", () -> {
            PairGrammars x = new PairGrammars();
            for (int what : NEVER) {
                due("count(" + what + ")", x.count(what), BAD_VALUE);
            }
            for (int what : new int[] {NONE, 8, 9, HIGHEST}) {
                due("count(" + what + ")", x.count(what), BAD_VALUE);
            }
        });
    }

    private static void pair() {
        section("Promise 13");
        sentence("NO_SUCH if there is no such symbol (0 to 7, and those of rules that there are)", () -> {
            PairGrammars x = told("A=ab;B=ab;hABh");
            due("pair(8, 9)", x.pair(8, 9), 1);
            due("pair(7, 8)", x.pair(7, 8), 1);
            due("pair(9, 7)", x.pair(9, 7), 1);
            for (int symbol : NEVER) {
                due("pair(" + symbol + ", 0)", x.pair(symbol, 0), NO_SUCH);
                due("pair(0, " + symbol + ")", x.pair(0, symbol), NO_SUCH);
            }
            for (int symbol : new int[] {NONE, 10, 33, 34, HIGHEST, HIGHEST - 7}) {
                due("pair(" + symbol + ", 0)", x.pair(symbol, 0), NO_SUCH);
                due("pair(0, " + symbol + ")", x.pair(0, symbol), NO_SUCH);
            }
            due("pair(8, 8) without a rule", new PairGrammars().pair(8, 8), NO_SUCH);
            due("pair(7, 7) of an empty row", new PairGrammars().pair(7, 7), 0);
            due("pair(33, 33) of 26 rules", deepest().pair(33, 33), 1);
            due("pair(33, 34) of 26 rules", deepest().pair(33, 34), NO_SUCH);
        });
    }

    private static void best() {
        section("Promise 14");
        sentence("BAD_VALUE if what is out of range", () -> {
            PairGrammars x = told("abab");
            for (int what : NEVER) {
                due("best(" + what + ")", x.best(what), BAD_VALUE);
            }
            for (int what : new int[] {NONE, 3, 4, HIGHEST}) {
                due("best(" + what + ")", x.best(what), BAD_VALUE);
            }
        });
        sentence("NONE if the main row has fewer than two symbols", () -> {
            PairGrammars x = told("abab");
            for (int left = 4; left >= 2; left--) {
                due("best(0) of " + left, x.best(0) < 0 ? 1 : 0, 0);
                x.delete(0);
            }
            for (int what = 0; what < 3; what++) {
                due("best(" + what + ") of one", x.best(what), NONE);
                due("best(" + what + ") of none", new PairGrammars().best(what), NONE);
            }
        });
    }

    private static void ratioAndShare() {
        section("Promise 15");
        sentence("of the size, as a double, divided by how many letters the word has, as a double", () -> {
            due("ratio() of 1", told("a").ratio(), Double.doubleToLongBits(1.0));
            due("ratio() above 1", told("A=abcdefgh;a").ratio(), Double.doubleToLongBits(9.0));
            due("ratio() far below 1", told(doubled(9999)).ratio(), Double.doubleToLongBits(34.0 / 9999.0));
            for (int letters = 2; letters < 9999; letters = letters * 5 / 4 + 1) {
                PairGrammars x = told(doubled(letters));
                double size = x.count(3);
                due("ratio() of " + letters, x.ratio(), Double.doubleToLongBits(size / (double) letters));
            }
        });
        sentence("Returns the bits (of 0.0, if the word is empty).", () -> {
            due("ratio() of a new object", new PairGrammars().ratio(), Double.doubleToLongBits(0.0));
            PairGrammars x = told("A=abc;h");
            x.delete(0);
            due("ratio() with a rule", x.ratio(), Double.doubleToLongBits(0.0));
        });
        section("Promise 16");
        sentence("Returns the bits (of 0.0f, if the word is empty)", () -> {
            PairGrammars x = told("A=abc;h");
            x.delete(0);
            for (int letter = 0; letter < 8; letter++) {
                due("share(" + letter + ") of the empty word", x.share(letter), Float.floatToIntBits(0.0f));
                due("share(" + letter + ") of a new object", new PairGrammars().share(letter), Float.floatToIntBits(0.0f));
            }
        });
        sentence("of how often it comes in the word, as a float, divided by how many letters the word has, as a float", () -> {
            PairGrammars x = told(doubled(9998) + "h");
            due("share(7), once", x.share(7), Float.floatToIntBits(1.0f / 9999.0f));
            due("share(0), always but once", x.share(0), Float.floatToIntBits(9998.0f / 9999.0f));
            due("share(3), never", x.share(3), Float.floatToIntBits(0.0f));
            due("share(0), always", told(doubled(9999)).share(0), Float.floatToIntBits(1.0f));
        });
        sentence("NO_SUCH if there is no such letter", () -> {
            PairGrammars x = told("A=abc;hA");
            for (int letter : NEVER) {
                due("share(" + letter + ")", x.share(letter), NO_SUCH);
            }
            for (int letter : new int[] {NONE, 8, 9, 33, HIGHEST}) {
                due("share(" + letter + ")", x.share(letter), NO_SUCH);
            }
            due("share(7), the last letter", x.share(7), Float.floatToIntBits(0.25f));
        });
    }

    private static void mark() {
        section("Promise 17");
        sentence("from 7 on, for each letter, 31 times what there is and the letter and 1, in int arithmetic that wraps", () -> {
            due("mark() of none", new PairGrammars().mark(), 7);
            due("mark() of a", told("a").mark(), 218);
            due("mark() of h", told("h").mark(), 225);
            int mark = 7;
            boolean wrapped = false;
            for (int letters = 1; letters <= 80; letters++) {
                long next = 31L * mark + 8;
                wrapped |= next != (int) next;
                mark = (int) next;
                due("mark() of " + letters, filled("h", letters).mark(), mark);
            }
            due("it wrapped", wrapped ? 1 : 0, 1);
            for (int letters = 81; letters <= 9999; letters++) {
                mark = 31 * mark + 8;
            }
            due("mark() of the longest word", told(doubled(9999).replace('a', 'h')).mark(), mark);
        });
    }

    // ---- promises 18 to 26

    private static void whatIf() {
        section("Promise 18");
        sentence("if it was folded as often as it can be, and pruned then", () -> {
            due("couldBe() of the empty word", new PairGrammars().couldBe(), 0);
            due("couldBe() of what can't be folded", told("abc").couldBe(), 3);
            due("couldBe() of a rule that is used once", told("A=abc;A").couldBe(), 3);
            due("couldBe() of a rule that is not used", told("A=abc;h").couldBe(), 1);
            due("couldBe() where a full row can't be pruned", fullRule("C").couldBe(), 82);
            PairGrammars x = manyRules();
            int size = x.couldBe();
            x.fold(26);
            x.prune();
            due("couldBe() that comes to 26 rules", size, x.count(3));
        });
        section("The interface");
        sentence("---- what if; nothing changes", () -> {
            Supplier<PairGrammars> made = () -> busy("A=ab;B=Acc;abcabcB");
            leavesNoTrace("couldBe()", made, PairGrammars::couldBe, 9);
            leavesNoTrace("unlike(0)", made, x -> x.unlike(0), 0);
            leavesNoTrace("opens(6)", made, x -> x.opens(6), 2);
        });
        unlike();
        section("Promise 20");
        sentence("Returns how many (0 if a letter of the main row tells it)", () -> {
            PairGrammars x = told("A=ab;B=A;hBA");
            due("opens(0)", x.opens(0), 0);
            due("opens(1)", x.opens(1), 2);
            due("opens(4), the last", x.opens(4), 1);
            due("opens(0) of 26 rules", deepest().opens(0), 26);
            due("opens(0) where edit(0, 0) has no room", filled("A=ab;A", 80).opens(0), 1);
        });
        sentence("NO_SUCH if there is no such place", () -> places(PairGrammars::opens, 0));
    }

    private static void unlike() {
        section("Promise 19");
        sentence("Returns the first place at which they are unlike (also the end of the shorter one)", () -> {
            PairGrammars x = new PairGrammars();
            x.save(0);
            x.insert(0, 0);
            due("unlike(0) of an empty one", x.unlike(0), 0);
            x.save(1);
            x.undo();
            due("unlike(1) of an empty word", x.unlike(1), 0);
            PairGrammars longest = told(doubled(9999));
            longest.save(0);
            longest.edit(9998, 7);
            due("unlike(0) at the last place", longest.unlike(0), 9998);
            longest.delete(9998);
            due("unlike(0) of a shorter word", longest.unlike(0), 9998);
            longest.save(1);
            longest.restore(0);
            due("unlike(1) of a longer word", longest.unlike(1), 9998);
        });
        sentence("NONE if they are the same", () -> {
            PairGrammars x = new PairGrammars();
            x.save(1);
            due("unlike(1) of two empty words", x.unlike(1), NONE);
            PairGrammars deep = deepest();
            deep.save(0);
            while (deep.count(2) > 0) {
                deep.unroll(0);
                due("unlike(0) of the same word with other rules", deep.unlike(0), NONE);
            }
            PairGrammars longest = told(doubled(9999));
            longest.save(0);
            longest.edit(5000, 0);
            due("unlike(0) of the longest word", longest.unlike(0), NONE);
        });
        sentence("BAD_VALUE if there is no such slot; NOT_POSSIBLE if nothing was saved in it", () -> slots(PairGrammars::unlike, true));
    }

    /** Slots that there are not, and those in which nothing was saved yet. */
    private static void slots(WithNumber call, boolean saved) {
        for (int slot : NEVER) {
            refused("slot " + slot, busy("A=ab;AA"), x -> call.on(x, slot), BAD_VALUE);
        }
        for (int slot : new int[] {NONE, 2, 3, HIGHEST}) {
            refused("slot " + slot, busy("A=ab;AA"), x -> call.on(x, slot), BAD_VALUE);
        }
        for (int slot = 0; saved && slot < 2; slot++) {
            int own = slot;
            refused("slot " + slot + " of a new object", new PairGrammars(), x -> call.on(x, own), NOT_POSSIBLE);
            PairGrammars x = told("A=ab;AA");
            x.save(1 - slot);
            refused("slot " + slot + " where the other one is saved", x, y -> call.on(y, own), NOT_POSSIBLE);
            x.save(slot);
            due("a refusal where it is saved, too", call.on(x, slot) == NOT_POSSIBLE ? 1 : 0, 0);
        }
    }

    private static void put() {
        section("Promise 21");
        sentence("its lowest 8 bits are the last character, the next 8 bits the one before, and so on", () -> {
            PairGrammars x = new PairGrammars();
            due("put of eight", x.put(packed("abcdefgh")), 8);
            due("put of one", x.put('a'), 9);
            due("put of seven", x.put(packed("hgfedcb")), 16);
            x.tell();
            grammarIs("tell()", x, "abcdefghahgfedcb");
        });
        sentence("characters: 1 to 8 characters", () -> {
            for (int characters = 1; characters <= 8; characters++) {
                due("put of " + characters, new PairGrammars().put(packed("abcdefgh".substring(0, characters))), characters);
            }
        });
        sentence("8 bits that are 0 mean that there are no more characters, and everything above them has to be 0, too", () -> {
            for (int characters = 1; characters < 8; characters++) {
                long number = packed("hhhhhhhh".substring(0, characters));
                PairGrammars x = new PairGrammars();
                due("put(" + number + ")", x.put(number), characters);
                due("put() with another one above", x.put(number | (long) 'h' << 56), characters == 7 ? 15 : BAD_VALUE);
            }
        });
        sentence("BAD_VALUE if there is no character", () -> refused("put(0)", busyPad(3), x -> x.put(0), BAD_VALUE));
        sentence("a code is not 33 to 126", () -> {
            for (int code = 1; code < 256; code++) {
                int due = code < 33 || code > 126 ? BAD_VALUE : 1;
                due("put(" + code + ")", new PairGrammars().put(code), due);
                for (int behind = 1; behind < 8; behind++) {
                    long number = packed("aaaaaaaa") & ~(255L << 8 * behind) | (long) code << 8 * behind;
                    due("put(" + number + ")", new PairGrammars().put(number), due == 1 ? 8 : BAD_VALUE);
                }
            }
        });
        sentence("or a bit above 8 bits that are 0 is not 0", () -> {
            for (int behind = 0; behind < 7; behind++) {
                for (int bit = 8 * behind + 8; bit < 64; bit++) {
                    long number = (packed("aaaaaaaa") & (1L << 8 * behind) - 1) | 1L << bit;
                    refused("put(" + number + ")", new PairGrammars(), x -> x.put(number), BAD_VALUE);
                }
            }
        });
        sentence("TOO_MANY if the pad would be longer than 80", () -> {
            for (int characters = 1; characters <= 8; characters++) {
                long number = packed("bbbbbbbb".substring(0, characters));
                due("put to 80", busyPad(80 - characters).put(number), 80);
                refused("put to 81", busyPad(81 - characters), x -> x.put(number), TOO_MANY);
            }
        });
    }

    private static void wipeAndFault() {
        section("Promise 22");
        sentence("Empties the pad, and returns the length that it had.", () -> {
            PairGrammars x = busyPad(80);
            due("wipe() of a full pad", x.wipe(), 80);
            due("wipe() of an empty pad", x.wipe(), 0);
            due("fault()", x.fault(), 0);
            due("wipe() of a new object's pad", new PairGrammars().wipe(), 0);
            due("put of one", x.put('a'), 1);
        });
        section("Promise 23");
        sentence("Returns the fault of the pad, NONE if there is none.", () -> {
            due("fault() at 0", padded(";").fault(), 0);
            due("fault() at 79", padded(times("a", 79) + "i").fault(), 79);
            due("fault() of 80 good ones", busyPad(80).fault(), NONE);
            due("fault() of one good one", busyPad(1).fault(), NONE);
            due("fault() of the first of two faults", padded("a;i").fault(), 1);
            due("fault() of a word that is too long", padded(doubled(10000)).fault(), NONE);
            leavesNoTrace("fault()", () -> busy("A=ab;AA"), PairGrammars::fault, NONE);
        });
    }

    private static void undo() {
        section("Promise 24");
        sentence("everything except the pad, the slots and the history is as it was before it", () -> {
            PairGrammars x = told("A=ab;AA");
            put(x, "A=cd;A");
            x.tell();
            x.save(0);
            put(x, "efg");
            due("undo()", x.undo(), 1);
            grammarIs("undo()", x, "A=ab;AA");
            due("count(6), the pad stays", x.count(6), 3);
            due("restore(0), the slot stays", x.restore(0), 1);
            grammarIs("restore(0)", x, "A=cd;A");
        });
        sentence("A history of at most 6 states is kept", () -> {
            PairGrammars x = new PairGrammars();
            for (int changes = 0; changes < 20; changes++) {
                due("count(7) behind " + changes, x.count(7), Math.min(6, changes));
                x.insert(changes, 0);
            }
        });
        sentence("each method that is a change, and returns no error, records the state before it (also if nothing is different then)",
            BoundaryTests::changesWithoutDifference);
        sentence("when one more is recorded, the oldest one is dropped", () -> {
            for (int changes = 0; changes < 20; changes++) {
                PairGrammars x = filled("h", changes + 1);
                for (int left = Math.min(5, changes); left >= 0; left--) {
                    due("undo() of " + changes, x.undo(), left);
                }
                due("count(0) of the oldest one", x.count(0), Math.max(0, changes - 5));
                due("undo() of what was dropped", x.undo(), NOT_POSSIBLE);
            }
        });
        sentence("NOT_POSSIBLE if there is none", () -> {
            refused("undo() of a new object", new PairGrammars(), PairGrammars::undo, NOT_POSSIBLE);
            PairGrammars x = told("abc");
            due("undo() of the only one", x.undo(), 0);
            refused("undo() again", x, PairGrammars::undo, NOT_POSSIBLE);
            due("a change then", x.insert(0, 0), 1);
            due("undo() of that", x.undo(), 0);
        });
    }

    private static void changesWithoutDifference() {
        PairGrammars x = told("ab");
        x.prune();
        due("count(7) behind prune() of nothing", x.count(7), 2);
        x.edit(0, 0);
        due("count(7) behind edit() to the same letter", x.count(7), 3);
        put(x, "ab");
        x.tell();
        due("count(7) behind tell() of the same", x.count(7), 4);
        x.save(0);
        x.restore(0);
        due("count(7) behind restore() of the same", x.count(7), 5);
        due("undo()", x.undo(), 4);
        grammarIs("undo() of no difference", x, "ab");
    }

    private static void slots() {
        section("Promise 25");
        sentence("Saves everything except the pad, the history and the slots in a slot, and overwrites what was saved there.", () -> {
            PairGrammars x = busy("A=ab;AA");
            due("save(1)", x.save(1), 1);
            due("save(0) over another", x.save(0), 1);
            x.delete(0);
            due("save(1) over another", x.save(1), 1);
            due("unlike(0)", x.unlike(0), 0);
            due("unlike(1)", x.unlike(1), NONE);
            due("count(6)", x.count(6), 7);
            due("restore(0)", x.restore(0), 1);
            grammarIs("restore(0)", x, "A=ab;AA");
            due("count(6) behind restore(0)", x.count(6), 7);
        });
        sentence("Returns how many rules there are", () -> {
            due("save(0) of none", new PairGrammars().save(0), 0);
            due("save(1) of 26", deepest().save(1), 26);
        });
        sentence("BAD_VALUE if there is no such slot", () -> slots(PairGrammars::save, false));
        section("Promise 26");
        sentence("Returns how many rules there are then", () -> {
            PairGrammars x = told("a");
            x.save(0);
            put(x, "A=b;A");
            x.tell();
            x.save(1);
            due("restore(0) of none", x.restore(0), 0);
            due("restore(1) of one", x.restore(1), 1);
        });
        sentence("Restores what was saved last in a slot, which keeps it. This is a change.", () -> {
            PairGrammars x = deepest();
            String all = grammar(x);
            x.save(0);
            x.prune();
            x.unroll(0);
            for (int times = 0; times < 8; times++) {
                x.delete(0);
                due("restore(0)", x.restore(0), 26);
                grammarIs("restore(0)", x, all);
            }
            due("undo()", x.undo(), 5);
            due("unlike(0) of the slot", x.unlike(0), 0);
        });
        sentence("BAD_VALUE if there is no such slot; NOT_POSSIBLE if nothing was saved in it", () -> slots(PairGrammars::restore, true));
    }

    public static void main(String[] args) {
        conventions();
        grammars();
        pairs();
        texts();
        newObject();
        tell();
        fold();
        unroll();
        prune();
        edit();
        insert();
        delete();
        questions();
        pair();
        best();
        ratioAndShare();
        mark();
        whatIf();
        put();
        wipeAndFault();
        undo();
        slots();
        close(sentences + " sentences with a boundary case");
    }
}
