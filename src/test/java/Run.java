import java.util.Map;

/**
 * Runs of calls on a new object, told as rows of a text: a call with its arguments, "->" and the
 * answer that is due. Several calls may stand in one line with ";" between them. LEAST and MOST are
 * the smallest and the greatest number of the argument's kind.
 */
final class Run {
    private static final int MOST_CALLS = 512;
    private static final Map<String, Integer> ARGUMENTS = Map.ofEntries(
        Map.entry("check", 2), Map.entry("copy", 4), Map.entry("right", 3), Map.entry("fee", 2),
        Map.entry("act", 4), Map.entry("state", 2), Map.entry("place", 1), Map.entry("floats", 2),
        Map.entry("home", 1), Map.entry("weed", 2), Map.entry("owed", 1), Map.entry("history", 3),
        Map.entry("count", 2));

    private final Due due;
    private final String sentence;
    private final ItemStates x = new ItemStates();
    private int calls = 0;

    private Run(Due due, String sentence) {
        this.due = due;
        this.sentence = sentence;
    }

    /** One run for a sentence of the document, or for a case of it. */
    static void of(Due due, String sentence, String rows) {
        Run run = new Run(due, sentence);
        for (String row : rows.split("[;\n]")) {
            if (!row.isBlank()) {
                run.row(row.strip());
            }
        }
    }

    private void row(String row) {
        String[] sides = row.split(" -> ");
        calls++;
        // Behind its 512th call nothing is promised, so a longer run would prove nothing.
        if (sides.length != 2 || calls > MOST_CALLS) {
            throw new IllegalArgumentException("no row, or one too many: " + row);
        }
        String[] words = sides[0].strip().split(" +");
        Integer arguments = ARGUMENTS.get(words[0]);
        if (arguments == null || arguments != words.length - 1) {
            throw new IllegalArgumentException("no such call: " + row);
        }
        due.is("\"" + sentence + "\", call " + calls + ": " + sides[0].strip(), call(words), number(sides[1].strip()));
    }

    private long call(String[] w) {
        switch (w[0]) {
            case "check": return x.check(number(w[1]), small(w[2]));
            case "copy": return x.copy(small(w[1]), number(w[2]), small(w[3]), small(w[4]));
            case "right": return x.right(small(w[1]), small(w[2]), yes(w[3])) ? 1 : 0;
            case "fee": return x.fee(small(w[1]), small(w[2]));
            case "act": return x.act(small(w[1]), small(w[2]), small(w[3]), number(w[4]));
            case "state": return x.state(small(w[1]), number(w[2]));
            case "place": return x.place(small(w[1]));
            case "floats": return x.floats(small(w[1]), yes(w[2])) ? 1 : 0;
            case "home": return x.home(small(w[1]));
            case "weed": return x.weed(small(w[1]), small(w[2]));
            case "owed": return x.owed(small(w[1]));
            case "history": return x.history(small(w[1]), small(w[2]), small(w[3]));
            default: return x.count(small(w[1]), small(w[2]));
        }
    }

    private static boolean yes(String word) {
        if (!word.equals("true") && !word.equals("false")) {
            throw new IllegalArgumentException("neither true nor false: " + word);
        }
        return word.equals("true");
    }

    private static int small(String word) {
        switch (word) {
            case "LEAST": return Integer.MIN_VALUE;
            case "MOST": return Integer.MAX_VALUE;
            default: return Math.toIntExact(number(word));
        }
    }

    private static long number(String word) {
        switch (word) {
            case "NONE": return -1;
            case "STATE": return -2;
            case "RIGHT": return -3;
            case "false": return 0;
            case "true": return 1;
            case "LEAST": return Long.MIN_VALUE;
            case "MOST": return Long.MAX_VALUE;
            default: return Long.parseLong(word);
        }
    }
}
