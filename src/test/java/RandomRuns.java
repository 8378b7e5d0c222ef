import java.util.Random;
import java.util.TreeMap;

/** Runs of 512 calls, made by numbered seeds, in which the class and the plain model must answer the same. */
public final class RandomRuns {
    private static final int RUNS = 300;
    private static final int CALLS = 512;
    private static final String[] NAMES = {"tell", "fold", "unroll", "prune", "edit", "insert", "delete", "letter",
        "symbol", "ofRule", "count", "pair", "best", "ratio", "share", "mark", "couldBe", "unlike", "opens", "put",
        "wipe", "fault", "undo", "save", "restore"};

    private final Random random;
    private final int[] weights = new int[NAMES.length];
    private final PairGrammars real = new PairGrammars();
    private final PlainModel model = new PlainModel();
    private final StringBuilder log = new StringBuilder();
    private static final TreeMap<String, Integer> SEEN = new TreeMap<>();

    private RandomRuns(long seed) {
        random = new Random(seed);
        for (int i = 0; i < weights.length; i++) {
            weights[i] = random.nextInt(4) == 0 ? 0 : 1 + random.nextInt(random.nextInt(5) == 0 ? 30 : 6);
        }
    }

    /** A number that is mostly within 0 to end - 1, at times at an edge or far off. */
    private int number(int end) {
        switch (random.nextInt(24)) {
            case 0: return -1;
            case 1: return end;
            case 2: return end - 1;
            case 3: return end + 1 + random.nextInt(3);
            case 4: return new int[] {-6, -5, -2, Integer.MIN_VALUE, Integer.MAX_VALUE, 1 << 30}[random.nextInt(6)];
            default: return end > 0 ? random.nextInt(end) : 0;
        }
    }

    private String text() {
        switch (random.nextInt(10)) {
            case 0: return doubling(9990 + random.nextInt(14));
            case 1: return letters(60 + random.nextInt(21), 1 + random.nextInt(8));
            case 2: return letters(random.nextInt(20), 8);
            case 3: return broken(grammar());
            case 4: return broken(letters(random.nextInt(10), 3));
            case 5: return powers();
            default: return grammar();
        }
    }

    private String letters(int length, int kinds) {
        StringBuilder text = new StringBuilder();
        for (int i = 0; i < length; i++) {
            text.append((char) ('a' + random.nextInt(kinds)));
        }
        return text.toString();
    }

    /** Rules that double, and a main row that makes the word as long as is asked. */
    private String doubling(int length) {
        StringBuilder text = new StringBuilder("A=aa;");
        for (int k = 1; k < 13; k++) {
            char before = (char) ('A' + k - 1);
            text.append((char) ('A' + k)).append('=').append(before).append(before).append(';');
        }
        for (int bit = 13; bit >= 0; bit--) {
            if ((length >> bit & 1) == 1) {
                text.append(bit == 0 ? 'b' : (char) ('A' + bit - 1));
            }
        }
        return text.toString();
    }

    /** Few rules with rows of several symbols each: words of all lengths, also far too long ones. */
    private String powers() {
        StringBuilder text = new StringBuilder();
        int rules = 1 + random.nextInt(8);
        int width = 1 + random.nextInt(6);
        for (int k = 0; k < rules; k++) {
            text.append((char) ('A' + k)).append('=');
            for (int i = 0; i < width; i++) {
                text.append(k == 0 ? "ab".charAt(random.nextInt(2)) : (char) ('A' + k - 1 - random.nextInt(Math.min(k, 2))));
            }
            text.append(';');
        }
        return text.append((char) ('A' + rules - 1)).append(letters(random.nextInt(4), 2)).toString();
    }

    private String grammar() {
        StringBuilder text = new StringBuilder();
        int rules = random.nextInt(random.nextBoolean() ? 5 : 17);
        for (int k = 0; k < rules && text.length() < 70; k++) {
            text.append((char) ('A' + k)).append('=').append(row(k, 1 + random.nextInt(k < 3 ? 20 : 3))).append(';');
        }
        int told = (int) text.chars().filter(c -> c == '=').count();
        return text.append(row(told, 1 + random.nextInt(Math.max(1, 80 - text.length())))).toString();
    }

    private String row(int rules, int length) {
        StringBuilder row = new StringBuilder();
        int kinds = 1 + random.nextInt(8);
        for (int i = 0; i < length; i++) {
            boolean letter = rules == 0 || random.nextInt(3) == 0;
            row.append((char) (letter ? 'a' + random.nextInt(kinds) : 'A' + random.nextInt(rules)));
        }
        return row.toString();
    }

    private String broken(String text) {
        StringBuilder changed = new StringBuilder(text);
        int place = random.nextInt(changed.length() + 1);
        switch (random.nextInt(3)) {
            case 0: changed.setLength(place); break;
            case 1: changed.insert(place, "=;;ABZia@[`{~!".charAt(random.nextInt(14))); break;
            default: changed.delete(place, Math.min(place + 1, changed.length()));
        }
        return changed.toString();
    }

    private static long packed(String text) {
        long number = 0;
        for (char c : text.toCharArray()) {
            number = number << 8 | c;
        }
        return number;
    }

    private long characters() {
        switch (random.nextInt(8)) {
            case 0: return random.nextLong();
            case 1: return packed(letters(1 + random.nextInt(8), 8)) & ~(255L << 8 * random.nextInt(8));
            case 2: return packed(letters(8, 2)) >>> 8 * random.nextInt(9);
            default: return packed(letters(1 + random.nextInt(8), 4));
        }
    }

    /** Wipes the pad, puts a whole text on it, mostly tells it. */
    private int putText() {
        int calls = 1;
        same("wipe()", "wipe", real.wipe(), model.wipe());
        String text = text();
        for (int i = 0; i < text.length(); i += 8) {
            long number = packed(text.substring(i, Math.min(i + 8, text.length())));
            same("put(" + number + ")", "put", real.put(number), model.put(number));
            calls++;
        }
        same("fault()", "fault", real.fault(), model.fault());
        return calls + 1;
    }

    private void same(String call, String name, long got, long due) {
        log.append(call).append(" -> ").append(got).append('\n');
        SEEN.merge(name + (due < 0 && due >= -6 ? " " + due : ""), 1, Integer::sum);
        if (got != due) {
            throw new IllegalStateException(log + "due is " + due);
        }
    }

    private int pick() {
        int sum = 1;
        for (int weight : weights) {
            sum += weight;
        }
        int rest = random.nextInt(sum);
        for (int i = 0; i < weights.length; i++) {
            rest -= weights[i];
            if (rest < 0) {
                return i;
            }
        }
        return 0;
    }

    private int call() {
        int which = pick();
        int rules = model.count(2);
        int word = model.count(0);
        int one;
        int two;
        switch (NAMES[which]) {
            case "tell":
                int calls = putText();
                same("tell()", "tell", real.tell(), model.tell());
                return calls + 1;
            case "fold": one = random.nextInt(3) == 0 ? 26 : number(28); same("fold(" + one + ")", "fold", real.fold(one), model.fold(one)); break;
            case "unroll": one = number(rules); same("unroll(" + one + ")", "unroll", real.unroll(one), model.unroll(one)); break;
            case "prune": same("prune()", "prune", real.prune(), model.prune()); break;
            case "edit": one = number(word); two = number(8); same("edit(" + one + ", " + two + ")", "edit", real.edit(one, two), model.edit(one, two)); break;
            case "insert": one = number(word + 1); two = number(8); same("insert(" + one + ", " + two + ")", "insert", real.insert(one, two), model.insert(one, two)); break;
            case "delete": one = number(word); same("delete(" + one + ")", "delete", real.delete(one), model.delete(one)); break;
            case "letter": one = number(word); same("letter(" + one + ")", "letter", real.letter(one), model.letter(one)); break;
            case "symbol":
                one = random.nextBoolean() ? -6 : number(rules);
                two = number(one == -6 ? model.count(1) : Math.max(0, model.ofRule(one, 0)));
                same("symbol(" + one + ", " + two + ")", "symbol", real.symbol(one, two), model.symbol(one, two));
                break;
            case "ofRule": one = number(rules); two = number(4); same("ofRule(" + one + ", " + two + ")", "ofRule", real.ofRule(one, two), model.ofRule(one, two)); break;
            case "count": one = number(8); same("count(" + one + ")", "count", real.count(one), model.count(one)); break;
            case "pair": one = number(8 + rules); two = number(8 + rules); same("pair(" + one + ", " + two + ")", "pair", real.pair(one, two), model.pair(one, two)); break;
            case "best": one = number(3); same("best(" + one + ")", "best", real.best(one), model.best(one)); break;
            case "ratio": same("ratio()", "ratio", real.ratio(), model.ratio()); break;
            case "share": one = number(8); same("share(" + one + ")", "share", real.share(one), model.share(one)); break;
            case "mark": same("mark()", "mark", real.mark(), model.mark()); break;
            case "couldBe": same("couldBe()", "couldBe", real.couldBe(), model.couldBe()); break;
            case "unlike": one = number(2); same("unlike(" + one + ")", "unlike", real.unlike(one), model.unlike(one)); break;
            case "opens": one = number(word); same("opens(" + one + ")", "opens", real.opens(one), model.opens(one)); break;
            case "put": long number = characters(); same("put(" + number + ")", "put", real.put(number), model.put(number)); break;
            case "wipe": same("wipe()", "wipe", real.wipe(), model.wipe()); break;
            case "fault": same("fault()", "fault", real.fault(), model.fault()); break;
            case "undo": same("undo()", "undo", real.undo(), model.undo()); break;
            case "save": one = number(2); same("save(" + one + ")", "save", real.save(one), model.save(one)); break;
            default: one = number(2); same("restore(" + one + ")", "restore", real.restore(one), model.restore(one));
        }
        // What every call leaves behind is told by a few numbers.
        same("mark()", "mark", real.mark(), model.mark());
        same("count(3)", "count", real.count(3), model.count(3));
        return 3;
    }

    public static void main(String[] args) {
        int runs = args.length > 0 ? Integer.parseInt(args[0]) : RUNS;
        int wrong = 0;
        for (int seed = 0; seed < runs; seed++) {
            RandomRuns run = new RandomRuns(seed);
            try {
                int calls = 0;
                while (calls < CALLS - 20) {
                    calls += run.call();
                }
            } catch (RuntimeException fault) {
                wrong++;
                System.out.println("seed " + seed + ": " + fault);
                if (wrong > 3) {
                    break;
                }
            }
        }
        if (args.length > 0) {
            System.out.println(SEEN);
        }
        System.out.println(runs + " random runs, " + wrong + " wrong");
        if (wrong != 0) {
            System.exit(1);
        }
    }
}
