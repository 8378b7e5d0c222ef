/** For each promise of the document: ordinary inputs, the edges that it names, and wrong inputs. */
public final class PromiseTests extends Checks {
    private static void promise1() {
        PairGrammars x = new PairGrammars();
        for (int what = 0; what < 8; what++) {
            due("count(" + what + ") of a new object", x.count(what), 0);
        }
        due("symbol(NONE, 0)", x.symbol(NONE, 0), NO_SUCH);
        due("fault()", x.fault(), 0);
        due("unlike(0)", x.unlike(0), NOT_POSSIBLE);
        due("unlike(1)", x.unlike(1), NOT_POSSIBLE);
        due("a second object", told("ab").count(0) + new PairGrammars().count(0), 2);
    }

    private static void promise2() {
        PairGrammars x = new PairGrammars();
        put(x, "A=ab;B=AAc;BBA");
        due("tell()", x.tell(), 12);
        due("the pad behind tell()", x.count(6), 0);
        due("the history behind tell()", x.count(7), 1);
        grammarIs("tell()", x, "A=ab;B=AAc;BBA");
        due("the word", word(x), "ababcababcab");
        put(x, "h");
        due("tell() over another grammar", x.tell(), 1);
        grammarIs("tell()", x, "h");
        put(x, "A=ab;");
        refused("tell() of a text that ends too early", x, PairGrammars::tell, BAD_TEXT);
        x.wipe();
        refused("tell() of an empty pad", x, PairGrammars::tell, BAD_TEXT);
        PairGrammars longest = told(doubled(9999));
        due("the longest word", longest.count(0), 9999);
        String longestRule = doubled(9999).replaceFirst(";([^;=]*)$", ";N=$1;");
        PairGrammars byRule = told(longestRule + "N");
        due("the longest rule", byRule.ofRule(13, 1), 9999);
        due("a word of the longest rule", byRule.count(0), 9999);
        PairGrammars y = told("abc");
        put(y, doubled(10000));
        refused("tell() of a word that is too long", y, PairGrammars::tell, TOO_MANY);
        due("the pad of a refused text", y.wipe() > 0 ? 1 : 0, 1);
        put(y, doubled(8192) + "a;");
        refused("tell() of a faulty text", y, PairGrammars::tell, BAD_TEXT);
        y.wipe();
        String tooLong = "A=aaaaaaaaaa;B=AAAAAAAAAA;C=BBBBBBBBBB;D=CCCCCCCCC" + "BBBBBBBBBB" + ";";
        put(y, tooLong + "a");
        refused("tell() of an unused rule that tells too much", y, PairGrammars::tell, TOO_MANY);
        put(y, "=");
        refused("tell() of a text with both faults", y, PairGrammars::tell, BAD_TEXT);
        y.wipe();
        y.wipe();
        StringBuilder huge = new StringBuilder("A=aaaaa;");
        for (char rule = 'B'; rule < 'J'; rule++) {
            huge.append(rule).append('=').append(times(String.valueOf((char) (rule - 1)), 5)).append(';');
        }
        put(y, huge + "IIIII");
        refused("tell() of a word of millions", y, PairGrammars::tell, TOO_MANY);
    }

    private static void promise3() {
        PairGrammars x = told("abababcabababc");
        due("fold(1)", x.fold(1), 1);
        grammarIs("fold(1)", x, "A=ab;AAAcAAAc");
        due("the word is the same", word(x), "abababcabababc");
        due("fold(2)", x.fold(2), 2);
        grammarIs("fold(2)", x, "A=ab;B=AA;C=BA;CcCc");
        due("fold(26)", x.fold(26), 1);
        grammarIs("fold(26)", x, "A=ab;B=AA;C=BA;D=Cc;DD");
        due("count(7)", x.count(7), 4);
        refused("fold(1) of a pair that comes once", x, y -> y.fold(1), NOT_POSSIBLE);
        refused("fold(0)", x, y -> y.fold(0), BAD_VALUE);
        refused("fold(27)", x, y -> y.fold(27), BAD_VALUE);
        refused("fold(1) of aaa", told("aaa"), y -> y.fold(1), NOT_POSSIBLE);
        PairGrammars a = told("aaaaa");
        due("fold(1) of aaaaa", a.fold(1), 1);
        grammarIs("fold(1)", a, "A=aa;AAa");
        PairGrammars tie = told("cdabcdab");
        tie.fold(1);
        grammarIs("fold(1) with a tie", tie, "A=cd;AabAab");
        PairGrammars inside = told("A=abab;AA");
        due("fold(26) folds no pairs of rules", inside.fold(26), NOT_POSSIBLE);
        due("fold(26) of an empty row", new PairGrammars().fold(26), NOT_POSSIBLE);
        promise3ManyRules();
    }

    private static void promise3ManyRules() {
        PairGrammars x = manyRules();
        due("fold(26) up to 26 rules", x.fold(26), 10);
        due("count(2)", x.count(2), 26);
        due("best(2)", x.best(2), 2);
        refused("fold(1) with 26 rules", x, y -> y.fold(1), NOT_POSSIBLE);
        due("symbol(NONE, 0), Q", x.symbol(NONE, 0), 24);
        due("ofRule(25, 1), the last rule", x.ofRule(25, 1), 2);
        due("pair(33, 33)", x.pair(33, 33), 1);
        due("pair(34, 33)", x.pair(34, 33), NO_SUCH);
    }

    private static void promise4() {
        PairGrammars x = told("A=aa;B=AA;C=ABc;ABC");
        x.fault();
        due("unroll(0) behind fault()", x.unroll(0), 4);
        grammarIs("unroll(0)", x, "A=aaaa;B=aaAc;aaAB");
        due("count(7)", x.count(7), 2);
        due("unroll(1)", x.unroll(1), 1);
        grammarIs("unroll(1)", x, "A=aaaa;aaAaaAc");
        refused("unroll(1)", x, y -> y.unroll(1), NO_SUCH);
        refused("unroll(-1)", x, y -> y.unroll(-1), NO_SUCH);
        refused("unroll(NONE)", x, y -> y.unroll(NONE), NO_SUCH);
        PairGrammars unused = told("A=ab;B=cd;C=Ae;AC");
        due("unroll(1), not used", unused.unroll(1), 0);
        grammarIs("unroll(1)", unused, "A=ab;B=Ae;AB");
        PairGrammars full = told("A=ab;" + times("A", 40));
        due("unroll(0) to 80 symbols", full.unroll(0), 40);
        due("count(1)", full.count(1), 80);
        refused("unroll(0) to 81 symbols", told("A=ab;" + times("A", 40) + "a"), y -> y.unroll(0), TOO_MANY);
        refused("unroll(0) to 81 symbols of a rule", told("A=ab;B=" + times("A", 40) + "a;B"), y -> y.unroll(0), TOO_MANY);
        refused("unroll(1) to 81 symbols of a rule", told("A=a;B=ab;C=" + times("B", 40) + "a;C"), y -> y.unroll(1), TOO_MANY);
        due("unroll(0) to 80 symbols of a rule", told("A=ab;B=" + times("A", 40) + ";B").unroll(0), 40);
    }

    private static void promise5() {
        PairGrammars x = told("A=ab;B=AA;C=Bc;AA");
        x.fault();
        due("prune() behind fault()", x.prune(), 2);
        grammarIs("prune()", x, "A=ab;AA");
        due("prune() of what is used twice", x.prune(), 0);
        due("count(7)", x.count(7), 3);
        PairGrammars chain = told("A=ab;B=Ac;A");
        due("prune() of what is then used once", chain.prune(), 2);
        grammarIs("prune()", chain, "ab");
        PairGrammars lowest = filled("A=ab;B=cd;AB", 79);
        due("prune() with room for one", lowest.prune(), 1);
        due("the lowest one is unrolled", row(lowest, 0), "cd");
        PairGrammars second = filled("A=abc;B=cd;AB", 79);
        due("prune() with room for the higher one", second.prune(), 1);
        due("the lower one stays", row(second, 0), "abc");
        due("symbol(NONE, 0)", second.symbol(NONE, 0), 8);
        due("prune() without room", filled("A=ab;B=cd;AB", 80).prune(), 0);
        due("prune() of a new object", new PairGrammars().prune(), 0);
    }

    private static void promise6() {
        PairGrammars x = told("A=ab;B=AAc;BAB");
        due("edit(8, 7)", x.edit(8, 7), 1);
        grammarIs("edit(8, 7)", x, "A=ab;B=AAc;BAahAc");
        due("the word", word(x), "ababcabahabc");
        due("edit(5, 0) to what it is", x.edit(5, 0), 0);
        grammarIs("edit(5, 0)", x, "A=ab;B=AAc;BabahAc");
        due("count(7)", x.count(7), 3);
        due("edit(11, 3), the last", x.edit(11, 3), 2);
        grammarIs("edit(11, 3)", x, "A=ab;B=AAc;BabahAd");
        refused("edit(12, 0)", x, y -> y.edit(12, 0), NO_SUCH);
        refused("edit(-1, 0)", x, y -> y.edit(-1, 0), NO_SUCH);
        refused("edit(-1, 8)", x, y -> y.edit(-1, 8), NO_SUCH);
        refused("edit(0, 8)", x, y -> y.edit(0, 8), BAD_VALUE);
        refused("edit(0, -1)", x, y -> y.edit(0, -1), BAD_VALUE);
        PairGrammars full = filled("A=abc;A", 79);
        refused("edit(0, 8) without room", full, y -> y.edit(0, 8), BAD_VALUE);
        refused("edit(0, 0) without room", full, y -> y.edit(0, 0), TOO_MANY);
        due("edit(3, 6) of a letter", full.edit(3, 6), 7);
        due("edit(0, 6) with room", filled("A=abc;A", 78).edit(0, 6), 0);
        refused("edit(0, 0) of a new object", new PairGrammars(), y -> y.edit(0, 0), NO_SUCH);
    }

    private static void promise7() {
        PairGrammars x = told("A=ab;B=AA;BB");
        due("insert(4, 7) at a symbol's first place", x.insert(4, 7), 9);
        grammarIs("insert(4, 7)", x, "A=ab;B=AA;BhB");
        due("insert(9, 6) at the end", x.insert(9, 6), 10);
        grammarIs("insert(9, 6)", x, "A=ab;B=AA;BhBg");
        due("insert(0, 5)", x.insert(0, 5), 11);
        grammarIs("insert(0, 5)", x, "A=ab;B=AA;fBhBg");
        due("insert(3, 4) at an inner rule's first place", x.insert(3, 4), 12);
        grammarIs("insert(3, 4) opens until the letter stands there", x, "A=ab;B=AA;fAeabhBg");
        due("insert(9, 3)", x.insert(9, 3), 13);
        grammarIs("insert(9, 3)", x, "A=ab;B=AA;fAeabhAdabg");
        due("count(7)", x.count(7), 6);
        due("the word", word(x), "fabeabhabdabg");
        refused("insert(14, 0)", x, y -> y.insert(14, 0), NO_SUCH);
        refused("insert(-1, 8)", x, y -> y.insert(-1, 8), NO_SUCH);
        refused("insert(0, 8)", x, y -> y.insert(0, 8), BAD_VALUE);
        refused("insert(13, -1)", x, y -> y.insert(13, -1), BAD_VALUE);
        promise7Limits();
    }

    private static void promise7Limits() {
        PairGrammars empty = new PairGrammars();
        refused("insert(1, 0) of a new object", empty, y -> y.insert(1, 0), NO_SUCH);
        due("insert(0, 2) of a new object", empty.insert(0, 2), 1);
        PairGrammars full = filled("A=ab;A", 80);
        refused("insert(0, 8) without room", full, y -> y.insert(0, 8), BAD_VALUE);
        refused("insert(0, 0) without room", full, y -> y.insert(0, 0), TOO_MANY);
        refused("insert(81, 0) without room", full, y -> y.insert(81, 0), TOO_MANY);
        refused("insert(1, 0) with room for the opening alone", filled("A=ab;A", 79), y -> y.insert(1, 0), TOO_MANY);
        due("insert(1, 0) with room", filled("A=ab;A", 78).insert(1, 0), 80);
        PairGrammars longest = told(doubled(9998));
        due("insert(9998, 0)", longest.insert(9998, 0), 9999);
        refused("insert(9999, 0)", longest, y -> y.insert(9999, 0), TOO_MANY);
        refused("insert(0, 0)", longest, y -> y.insert(0, 0), TOO_MANY);
        refused("insert(10000, 0)", longest, y -> y.insert(10000, 0), NO_SUCH);
        due("edit(9998, 1)", longest.edit(9998, 1), 0);
    }

    private static void promise8() {
        PairGrammars x = told("A=ab;B=AAc;BAB");
        due("delete(2)", x.delete(2), 0);
        grammarIs("delete(2)", x, "A=ab;B=AAc;AbcAB");
        due("the word", word(x), "abbcabababc");
        due("delete(10), the last", x.delete(10), 2);
        grammarIs("delete(10)", x, "A=ab;B=AAc;AbcAAA");
        due("count(7)", x.count(7), 3);
        refused("delete(10)", x, y -> y.delete(10), NO_SUCH);
        refused("delete(-1)", x, y -> y.delete(-1), NO_SUCH);
        PairGrammars one = told("A=h;A");
        due("delete(0) of the only letter", one.delete(0), 7);
        grammarIs("delete(0)", one, "A=h;");
        refused("delete(0) of the empty word", one, y -> y.delete(0), NO_SUCH);
        refused("delete(0) without room on the way", filled("A=ab;A", 80), y -> y.delete(0), TOO_MANY);
        due("delete(0) with room on the way", filled("A=ab;A", 79).delete(0), 0);
        due("delete(79) of a letter of a full row", filled("ab", 80).delete(79), 7);
    }

    private static void promise9() {
        PairGrammars x = told("A=abc;B=dAe;C=BfB;CgCA");
        String word = "dabcefdabcegdabcefdabceabc";
        due("the word", word(x), word);
        due("letter(25)", x.letter(25), 2);
        due("letter(26)", x.letter(26), NO_SUCH);
        due("letter(-1)", x.letter(-1), NO_SUCH);
        due("letter(0) of a new object", new PairGrammars().letter(0), NO_SUCH);
        PairGrammars longest = told(doubled(8191) + "b");
        due("letter(8191)", longest.letter(8191), 1);
        due("letter(8190)", longest.letter(8190), 0);
        due("letter(8192)", longest.letter(8192), NO_SUCH);
        due("letter() leaves the rows", longest.count(7), 1);
    }

    private static void promise10() {
        PairGrammars x = told("A=ah;B=cAd;BAe");
        due("symbol(0, 1)", x.symbol(0, 1), 7);
        due("symbol(1, 1)", x.symbol(1, 1), 8);
        due("symbol(NONE, 0)", x.symbol(NONE, 0), 9);
        due("symbol(NONE, 2)", x.symbol(NONE, 2), 4);
        due("symbol(NONE, 3)", x.symbol(NONE, 3), NO_SUCH);
        due("symbol(NONE, -1)", x.symbol(NONE, -1), NO_SUCH);
        due("symbol(0, 2)", x.symbol(0, 2), NO_SUCH);
        due("symbol(1, -1)", x.symbol(1, -1), NO_SUCH);
        due("symbol(2, 0)", x.symbol(2, 0), NO_SUCH);
        due("symbol(-1, 0)", x.symbol(-1, 0), NO_SUCH);
        due("symbol(-5, 0)", x.symbol(-5, 0), NO_SUCH);
        due("symbol(-7, 0)", x.symbol(-7, 0), NO_SUCH);
        due("symbol(26, 0)", x.symbol(26, 0), NO_SUCH);
    }

    private static void promise11() {
        PairGrammars x = told("A=abc;B=dAeA;C=f;D=CBC;BDA");
        int[][] want = {{3, 3, 3, 1}, {4, 8, 2, 2}, {1, 1, 2, 1}, {3, 10, 1, 3}};
        for (int rule = 0; rule < 4; rule++) {
            for (int what = 0; what < 4; what++) {
                due("ofRule(" + rule + ", " + what + ")", x.ofRule(rule, what), want[rule][what]);
            }
        }
        due("ofRule(4, 0)", x.ofRule(4, 0), NO_SUCH);
        due("ofRule(4, 4)", x.ofRule(4, 4), NO_SUCH);
        due("ofRule(-1, 9)", x.ofRule(-1, 9), NO_SUCH);
        due("ofRule(NONE, 0)", x.ofRule(NONE, 0), NO_SUCH);
        due("ofRule(0, 4)", x.ofRule(0, 4), BAD_VALUE);
        due("ofRule(0, -1)", x.ofRule(0, -1), BAD_VALUE);
        x.edit(1, 0);
        due("ofRule(0, 2) of an opened rule", x.ofRule(0, 2), 5 - 1);
        due("ofRule(1, 2) of an opened rule", x.ofRule(1, 2), 1);
    }

    private static void promise12() {
        PairGrammars x = told("A=abc;B=dAeA;C=f;D=CBC;E=gh;BDA");
        put(x, "abc");
        int[] want = {21, 3, 5, 16, 3, 1, 3, 1};
        for (int what = 0; what < want.length; what++) {
            due("count(" + what + ")", x.count(what), want[what]);
        }
        due("count(8)", x.count(8), BAD_VALUE);
        due("count(-1)", x.count(-1), BAD_VALUE);
        x.edit(0, 1);
        due("count(1)", x.count(1), 6);
        due("count(3)", x.count(3), 19);
        due("count(7)", x.count(7), 2);
    }

    private static void promise13() {
        PairGrammars x = told("A=abab;AAAAAababaa");
        due("pair(8, 8)", x.pair(8, 8), 2);
        due("pair(0, 1)", x.pair(0, 1), 2);
        due("pair(1, 0)", x.pair(1, 0), 2);
        due("pair(0, 0)", x.pair(0, 0), 1);
        due("pair(8, 0)", x.pair(8, 0), 1);
        due("pair(7, 7)", x.pair(7, 7), 0);
        due("pair(9, 0)", x.pair(9, 0), NO_SUCH);
        due("pair(0, 9)", x.pair(0, 9), NO_SUCH);
        due("pair(-1, 0)", x.pair(-1, 0), NO_SUCH);
        due("pair(0, -1)", x.pair(0, -1), NO_SUCH);
        due("pair(8, 0) without rules", told("ab").pair(8, 0), NO_SUCH);
        due("pair(0, 0) of aaa", told("aaa").pair(0, 0), 1);
        due("pair(0, 0) of aaaa", told("aaaa").pair(0, 0), 2);
        due("pair(0, 0) of baaabaa", told("baaabaa").pair(0, 0), 2);
        due("pair(0, 0) of a new object", new PairGrammars().pair(0, 0), 0);
    }

    private static void bestIs(String text, int first, int second, int times) {
        PairGrammars x = told(text);
        due("best(0) of " + text, x.best(0), first);
        due("best(1) of " + text, x.best(1), second);
        due("best(2) of " + text, x.best(2), times);
    }

    private static void promise14() {
        bestIs("abcbcab", 0, 1, 2);
        bestIs("cabcbcab", 2, 0, 2);
        bestIs("abcbcbca", 1, 2, 3);
        bestIs("aaabab", 0, 1, 2);
        bestIs("baaaaab", 0, 0, 2);
        bestIs("abaaa", 0, 1, 1);
        bestIs("A=ab;B=AA;ABABB", 8, 9, 2);
        bestIs("hg", 7, 6, 1);
        PairGrammars x = told("a");
        due("best(0) of a", x.best(0), NONE);
        due("best(2) of a", x.best(2), NONE);
        due("best(3) of a", x.best(3), BAD_VALUE);
        due("best(-1) of a", x.best(-1), BAD_VALUE);
        due("best(1) of a new object", new PairGrammars().best(1), NONE);
        due("best(3) of two", told("ab").best(3), BAD_VALUE);
    }

    private static void promise15() {
        for (String text : new String[] {"a", "A=ab;AAA", "A=ab;B=AA;BBBBB", "A=a;B=A;C=B;C", doubled(9999), doubled(4096),
            doubled(7777), "A=abcdefgh;B=AAAAAAA;BBBBBBBc", "A=aaa;B=aaa;C=aaa;D=aaa;E=aaa;a"}) {
            PairGrammars x = told(text);
            double due = (double) x.count(3) / (double) x.count(0);
            due("ratio() of " + text, x.ratio(), Double.doubleToLongBits(due));
        }
        PairGrammars empty = told("A=ab;a");
        empty.delete(0);
        due("ratio() of the empty word", empty.ratio(), 0L);
        due("ratio() of a new object", new PairGrammars().ratio(), 0L);
    }

    private static void promise16() {
        PairGrammars x = told("A=abc;B=AAad;BBBBBh");
        int[] want = {15, 10, 10, 5, 0, 0, 0, 1};
        for (int letter = 0; letter < 8; letter++) {
            due("share(" + letter + ")", x.share(letter), Float.floatToIntBits((float) want[letter] / 41.0f));
        }
        due("share(8)", x.share(8), NO_SUCH);
        due("share(-1)", x.share(-1), NO_SUCH);
        due("share(0) of one letter", told("a").share(0), Float.floatToIntBits(1.0f));
        PairGrammars rare = told(doubled(9998));
        rare.insert(77, 1);
        due("share(1) of 9999", rare.share(1), Float.floatToIntBits(1.0f / 9999.0f));
        due("share(0) of 9999", rare.share(0), Float.floatToIntBits(9998.0f / 9999.0f));
        due("share(0) of a new object", new PairGrammars().share(0), 0);
        due("share(8) of a new object", new PairGrammars().share(8), NO_SUCH);
    }

    private static void promise17() {
        due("mark() of a new object", new PairGrammars().mark(), 7);
        due("mark() of a", told("a").mark(), 7 * 31 + 1);
        due("mark() of bh", told("bh").mark(), (7 * 31 + 2) * 31 + 8);
        for (String text : new String[] {"A=abc;B=AdA;C=BBe;CABCg", doubled(9999)}) {
            PairGrammars x = told(text);
            int due = 7;
            for (char letter : word(x).toCharArray()) {
                due = 31 * due + (letter - 'a') + 1;
            }
            due("mark() of " + text, x.mark(), due);
            x.fold(26);
            due("mark() behind fold(26)", x.mark(), due);
        }
    }

    private static void promise18() {
        for (String text : new String[] {"abababcabababc", "A=ab;B=Ac;A", "abc", "A=ab;B=cd;ABAB", "A=abcd;AA",
            "A=a;B=b;C=c;ABCABC", "aabaabaabaab"}) {
            PairGrammars x = told(text);
            String before = everything(x);
            int size = x.couldBe();
            due("what there is behind couldBe()", everything(x), before);
            x.fold(26);
            x.prune();
            due("couldBe() of " + text, size, x.count(3));
        }
        due("couldBe() of abababcabababc", told("abababcabababc").couldBe(), 8);
        due("couldBe() of a rule that is used once", told("A=abc;A").couldBe(), 3);
        due("couldBe() of a new object", new PairGrammars().couldBe(), 0);
        PairGrammars many = manyRules();
        int size = many.couldBe();
        many.fold(26);
        many.prune();
        due("couldBe() with many rules", size, many.count(3));
    }

    private static void promise19() {
        PairGrammars x = told("A=ab;AAAc");
        due("unlike(0)", x.unlike(0), NOT_POSSIBLE);
        due("unlike(1)", x.unlike(1), NOT_POSSIBLE);
        due("unlike(2)", x.unlike(2), BAD_VALUE);
        due("unlike(-1)", x.unlike(-1), BAD_VALUE);
        x.save(0);
        due("unlike(0)", x.unlike(0), NONE);
        due("unlike(1)", x.unlike(1), NOT_POSSIBLE);
        x.unroll(0);
        due("unlike(0) of the same word in other rows", x.unlike(0), NONE);
        x.edit(3, 7);
        due("unlike(0)", x.unlike(0), 3);
        put(x, "abab");
        x.tell();
        due("unlike(0) of the shorter word", x.unlike(0), 4);
        x.save(1);
        x.restore(0);
        due("unlike(1) of the longer word", x.unlike(1), 4);
        x.insert(0, 4);
        due("unlike(1) at the first place", x.unlike(1), 0);
        promise19Ends();
    }

    private static void promise19Ends() {
        PairGrammars x = new PairGrammars();
        x.save(1);
        due("unlike(1) of two empty words", x.unlike(1), NONE);
        x.insert(0, 0);
        due("unlike(1) of an empty word", x.unlike(1), 0);
        PairGrammars longest = told(doubled(9999));
        longest.save(0);
        due("unlike(0) of the longest word", longest.unlike(0), NONE);
        longest.edit(9998, 5);
        due("unlike(0) at the last place", longest.unlike(0), 9998);
        longest.delete(9998);
        due("unlike(0) at the shorter one's end", longest.unlike(0), 9998);
        StringBuilder chain = new StringBuilder("A=a;");
        for (char rule = 'B'; rule < 'S'; rule++) {
            chain.append(rule).append('=').append((char) (rule - 1)).append(';');
        }
        PairGrammars deep = told(chain + "RRAR");
        deep.save(0);
        put(deep, "aaaa");
        deep.tell();
        due("unlike(0) of deep rules", deep.unlike(0), NONE);
    }

    private static void promise20() {
        PairGrammars x = told("A=ab;B=cAd;C=BB;CAe");
        int[] want = {2, 3, 3, 2, 2, 3, 3, 2, 1, 1, 0};
        for (int place = 0; place < want.length; place++) {
            due("opens(" + place + ")", x.opens(place), want[place]);
        }
        due("opens(11)", x.opens(11), NO_SUCH);
        due("opens(-1)", x.opens(-1), NO_SUCH);
        due("count(7)", x.count(7), 1);
        due("count(1)", x.count(1), 3);
        due("opens(0) without room", filled("A=abc;A", 80).opens(0), 1);
        due("opens(0) of a new object", new PairGrammars().opens(0), NO_SUCH);
    }

    private static void promise21() {
        PairGrammars x = new PairGrammars();
        due("put of a", x.put('a'), 1);
        due("put of eight", x.put(packed("bcdefgha")), 9);
        due("put of the first code", x.put(33), 10);
        due("put of the last code", x.put(126), 11);
        for (long number : new long[] {0, 32, 127, 255, -1, 256, 0x6100L, 0x610061L, 0x6100000000000000L, 0x6100000000000061L,
            0x20616161L, 0x6161616161616120L, 0x2061616161616161L, 0x8061616161616161L, 0xFF61616161616161L, Long.MIN_VALUE}) {
            refused("put(" + number + ")", x, y -> y.put(number), BAD_VALUE);
        }
        PairGrammars y = new PairGrammars();
        put(y, times("ab", 38));
        due("count(6)", y.count(6), 76);
        refused("put of five", y, z -> z.put(packed("aaaaa")), TOO_MANY);
        due("put of four", y.put(packed("cdef")), 80);
        refused("put of one more", y, z -> z.put('a'), TOO_MANY);
        refused("put of a bad code on a full pad", y, z -> z.put(32), BAD_VALUE);
        refused("put of nothing on a full pad", y, z -> z.put(0), BAD_VALUE);
        due("tell()", y.tell(), 80);
        due("the word", word(y), times("ab", 38) + "cdef");
    }

    private static void promise22() {
        PairGrammars x = told("abc");
        due("wipe() of an empty pad", x.wipe(), 0);
        put(x, "A=ab;zz");
        due("wipe()", x.wipe(), 7);
        due("count(6)", x.count(6), 0);
        due("fault()", x.fault(), 0);
        due("count(7)", x.count(7), 1);
        due("the word", word(x), "abc");
        put(x, "h");
        due("tell() of what was put then", x.tell(), 1);
    }

    private static void promise23() {
        String[] texts = {"", "a", "h", "i", "A", "A=", "A=a", "A=a;", "A=a;A", "A=a;B", "A=a;B=", "A=a;B=A;BA", "A=;a", "A==a;a",
            "A=A;a", "A=B;a", "B=a;b", "aA", "ab;", "a=b", "A=a;C=a;a", "A=a;aB", "A=a;aB=a;a", "A=a;A=b;a", "A=a;B=b;aAB", "A=a;;a",
            "Aa", "=", ";", "A=a=b;a", "A=aB;a", "a~", "A=ab`;a", "A=ab@;a", "A=ai;a", "A=a;b[", "A=hhh;AhA", "A=a;AB", "A=a;B=bB;a"};
        int[] wants = {0, NONE, NONE, 0, 1, 2, 3, 4, NONE, 5, 6, NONE, 2, 2,
            2, 2, 0, 1, 2, 1, 4, 5, 5, 5, NONE, 4,
            1, 0, 0, 3, 3, 1, 4, 4, 3, 5, NONE, 5, 7};
        for (int i = 0; i < texts.length; i++) {
            PairGrammars x = new PairGrammars();
            put(x, texts[i]);
            due("fault() of " + texts[i], x.fault(), wants[i]);
            due("tell() of " + texts[i], x.tell() == BAD_TEXT ? 1 : 0, wants[i] == NONE ? 0 : 1);
        }
        PairGrammars x = told("abc");
        put(x, "A=ab;AA");
        String before = everything(x);
        due("fault()", x.fault(), NONE);
        due("what there is behind fault()", everything(x), before);
        PairGrammars full = new PairGrammars();
        put(full, times("a", 79) + ";");
        due("fault() at the end of a full pad", full.fault(), 79);
        PairGrammars tooLong = new PairGrammars();
        put(tooLong, doubled(10000));
        due("fault() of a word that is too long", tooLong.fault(), NONE);
    }

    private static void promise24() {
        PairGrammars x = new PairGrammars();
        refused("undo() of a new object", x, PairGrammars::undo, NOT_POSSIBLE);
        String[] states = new String[9];
        for (int i = 0; i < 9; i++) {
            states[i] = grammar(x);
            due("count(7)", x.count(7), Math.min(i, 6));
            x.insert(i, i % 8);
        }
        put(x, "abc");
        x.save(1);
        for (int left = 5; left >= 0; left--) {
            due("undo()", x.undo(), left);
            grammarIs("undo()", x, states[3 + left]);
        }
        refused("undo() of the seventh", x, PairGrammars::undo, NOT_POSSIBLE);
        due("the pad behind undo()", x.wipe(), 3);
        due("the slot behind undo()", x.unlike(1), 3);
        due("a change behind undo()", x.insert(0, 7), 4);
        due("undo()", x.undo(), 0);
        grammarIs("undo()", x, "abc");
        promise24EveryChange();
    }

    private static void undone(String name, PairGrammars x, Call change) {
        String before = grammar(x);
        int kept = x.count(7);
        // What was only tried must not be what the change begins with.
        x.fault();
        x.couldBe();
        x.fault();
        due(name + " answers no error", change.on(x) >= 0 ? 1 : 0, 1);
        due("count(7) behind " + name, x.count(7), kept + 1);
        due("undo() of " + name, x.undo(), kept);
        grammarIs("undo() of " + name, x, before);
    }

    private static void promise24EveryChange() {
        PairGrammars x = told("A=ab;B=AAc;ABABBBAB");
        x.save(0);
        x.edit(0, 7);
        put(x, "abc");
        undone("tell()", x, PairGrammars::tell);
        due("undo() gives the pad nothing back", x.count(6), 0);
        undone("fold(2)", x, y -> y.fold(2));
        undone("unroll(0)", x, y -> y.unroll(0));
        undone("prune()", x, PairGrammars::prune);
        undone("edit(3, 3)", x, y -> y.edit(3, 3));
        undone("insert(3, 3)", x, y -> y.insert(3, 3));
        undone("delete(3)", x, y -> y.delete(3));
        undone("restore(0)", x, y -> y.restore(0));
        int kept = x.count(7);
        put(x, "a");
        x.save(1);
        x.couldBe();
        x.fault();
        x.wipe();
        due("count(7) behind what is no change", x.count(7), kept);
    }

    private static void promise25() {
        PairGrammars x = told("A=ab;B=AA;BB");
        due("save(0)", x.save(0), 2);
        due("save(1)", x.save(1), 2);
        due("count(7)", x.count(7), 1);
        x.edit(0, 7);
        due("unlike(0), a copy", x.unlike(0), 0);
        due("save(0) over another", x.save(0), 2);
        due("unlike(0)", x.unlike(0), NONE);
        due("unlike(1)", x.unlike(1), 0);
        x.undo();
        due("unlike(0) behind undo()", x.unlike(0), 0);
        refused("save(2)", x, y -> y.save(2), BAD_VALUE);
        refused("save(-1)", x, y -> y.save(-1), BAD_VALUE);
        due("save(1) of a new object", new PairGrammars().save(1), 0);
    }

    private static void promise26() {
        PairGrammars x = told("A=ab;B=AA;BB");
        refused("restore(0)", x, y -> y.restore(0), NOT_POSSIBLE);
        refused("restore(2)", x, y -> y.restore(2), BAD_VALUE);
        refused("restore(-1)", x, y -> y.restore(-1), BAD_VALUE);
        x.save(0);
        refused("restore(1)", x, y -> y.restore(1), NOT_POSSIBLE);
        put(x, "cd");
        x.tell();
        put(x, "zz");
        x.save(1);
        due("restore(0)", x.restore(0), 2);
        grammarIs("restore(0)", x, "A=ab;B=AA;BB");
        due("count(7)", x.count(7), 3);
        due("the pad", x.count(6), 2);
        due("ofRule(1, 1)", x.ofRule(1, 1), 4);
        x.unroll(0);
        due("restore(0) again, the slot keeps it", x.restore(0), 2);
        grammarIs("restore(0)", x, "A=ab;B=AA;BB");
        due("restore(1)", x.restore(1), 0);
        grammarIs("restore(1)", x, "cd");
        x.undo();
        grammarIs("undo()", x, "A=ab;B=AA;BB");
    }

    /** Rules as deep as they can be: nineteen told by a text, seven folded. */
    private static void deepest() {
        StringBuilder chain = new StringBuilder("A=h;");
        for (char rule = 'B'; rule < 'T'; rule++) {
            chain.append(rule).append('=').append((char) (rule - 1)).append(';');
        }
        PairGrammars x = told(chain + "SS");
        for (int letter = 6; letter >= 0; letter--) {
            x.insert(1, letter);
        }
        for (int letter = 0; letter < 7; letter++) {
            x.insert(x.count(0), letter);
        }
        due("fold(26)", x.fold(26), 7);
        due("symbol(NONE, 1), Z", x.symbol(NONE, 1), 33);
        due("count(1)", x.count(1), 2);
        due("count(4)", x.count(4), 26);
        due("ofRule(25, 3)", x.ofRule(25, 3), 26);
        due("opens(0)", x.opens(0), 26);
        due("the word", word(x), "habcdefghabcdefg");
        int size = x.count(3);
        due("ratio()", x.ratio(), Double.doubleToLongBits((double) size / 16.0));
        due("share(7)", x.share(7), Float.floatToIntBits(2.0f / 16.0f));
        x.save(0);
        due("edit(0, 7)", x.edit(0, 7), 7);
        due("count(1) behind edit(0, 7)", x.count(1), 9);
        due("unlike(0)", x.unlike(0), NONE);
        due("delete(8)", x.delete(8), 7);
        due("unlike(0)", x.unlike(0), 8);
        due("prune()", x.prune(), 26);
        due("the word", word(x), "habcdefgabcdefg");
    }

    private static void constants() {
        due("NO_SUCH", PairGrammars.NO_SUCH, NO_SUCH);
        due("BAD_VALUE", PairGrammars.BAD_VALUE, BAD_VALUE);
        due("BAD_TEXT", PairGrammars.BAD_TEXT, BAD_TEXT);
        due("TOO_MANY", PairGrammars.TOO_MANY, TOO_MANY);
        due("NOT_POSSIBLE", PairGrammars.NOT_POSSIBLE, NOT_POSSIBLE);
        due("NONE", PairGrammars.NONE, NONE);
    }

    public static void main(String[] args) {
        Runnable[] promises = {PromiseTests::constants, PromiseTests::promise1, PromiseTests::promise2, PromiseTests::promise3,
            PromiseTests::promise4, PromiseTests::promise5, PromiseTests::promise6, PromiseTests::promise7, PromiseTests::promise8,
            PromiseTests::promise9, PromiseTests::promise10, PromiseTests::promise11, PromiseTests::promise12,
            PromiseTests::promise13, PromiseTests::promise14, PromiseTests::promise15, PromiseTests::promise16,
            PromiseTests::promise17, PromiseTests::promise18, PromiseTests::promise19, PromiseTests::promise20,
            PromiseTests::promise21, PromiseTests::promise22, PromiseTests::promise23, PromiseTests::promise24,
            PromiseTests::promise25, PromiseTests::promise26, PromiseTests::deepest};
        for (int promise = 0; promise < promises.length; promise++) {
            about("promise " + promise);
            promises[promise].run();
        }
        close("promises");
    }
}
