import java.util.HashMap;
import java.util.HashSet;
import java.util.Set;

/** What streams tell, held against the matches of the text with all that could come behind it. */
public final class StreamTest {
    private static final String[] ATOMS = {"a", "b", "c", "a", "b", ".", "[ab]", "[^a]", "[a&&b]", ""};
    private static final String[] REPEATS = {"?", "*", "+", "??", "*?", "+?", "{2}", "{1,2}", "{2,}", "{0}"};
    private static final String SIGNS = "abc";
    private static final int MOST_MORE = 6;

    private static Chance chance;

    private static String pattern(int depth) {
        StringBuilder made = new StringBuilder();
        int items = chance.below(3) + (depth == 2 ? 1 : 0);
        for (int i = 0; i < items; i++) {
            made.append(depth > 0 && chance.one(3) ? "(?:" + pattern(depth - 1) + ")" : chance.of(ATOMS));
            if (chance.one(3) && made.length() > 0 && "?*+}".indexOf(made.charAt(made.length() - 1)) < 0) {
                made.append(chance.of(REPEATS));
            }
        }
        return chance.one(3) ? made + "|" + pattern(Math.max(0, depth - 1)) : made.toString();
    }

    public static void main(String[] args) {
        int runs = args.length > 0 ? Integer.parseInt(args[0]) : 3000;
        Thread deep = new Thread(null, () -> check(runs), "deep", 1L << 30);
        deep.start();
        try {
            deep.join();
        } catch (InterruptedException e) {
            Bench.wrong++;
        }
        Bench.end();
    }

    private static void check(int runs) {
        chance = new Chance(7);
        int streams = 0;
        for (int run = 0; run < runs && Bench.wrong < 10; run++) {
            String told = pattern(2);
            Bench b = new Bench();
            int number = b.pattern(told);
            Reference reference = Reference.read(told, new HashMap<>(), (char) 0);
            boolean isShort = reference != null && reference.least(reference.whole) <= MOST_MORE - 2;
            if (number < 0 || !isShort || !reference.isTakenBy(2)) {
                continue;
            }
            streams++;
            hold(b, number, reference, told, false);
            hold(b, number, reference, told, true);
        }
        System.out.println(streams + " patterns streamed");
    }

    private static void hold(Bench b, int number, Reference reference, String told, boolean isAnchored) {
        String text = "";
        int stream = b.x.stream(number, isAnchored);
        compare(reference, told, text, isAnchored, b.x.told(stream));
        while (text.length() < 5) {
            StringBuilder piece = new StringBuilder();
            int length = chance.below(3);
            for (int i = 0; i < length; i++) {
                piece.append(chance.of(SIGNS));
            }
            text = text + piece;
            int answered = b.feed(stream, piece.toString());
            compare(reference, told, text, isAnchored, answered);
            Bench.same("told", b.x.told(stream), answered);
            Bench.same("draft", b.x.clear(), 0);
            if (chance.one(4)) {
                break;
            }
        }
        Bench.same("finish '" + told + "' " + text, b.x.finish(stream), match(reference, text, isAnchored));
        Bench.same("told at last", b.x.told(stream), match(reference, text, isAnchored));
    }

    private static int match(Reference reference, String text, boolean isAnchored) {
        if (!isAnchored) {
            return reference.find(text, 0, 1000000, false);
        }
        // A search back from 0 tries 0 alone as the start.
        return reference.find(text, 0, 1000000, true);
    }

    private static void compare(Reference reference, String told, String text, boolean isAnchored, int answered) {
        Set<Integer> all = new HashSet<>();
        collect(reference, text, isAnchored, MOST_MORE, all);
        if (all.size() == 1 && answered == MendBench.NOT_YET) {
            // What makes the difference may be longer.
            collect(reference, text, isAnchored, 2 * MOST_MORE, all);
        }
        int due = all.size() == 1 ? all.iterator().next() : MendBench.NOT_YET;
        Bench.same("'" + told + "' on '" + text + "' anchored " + isAnchored, answered, due);
    }

    private static void collect(Reference reference, String text, boolean isAnchored, int more, Set<Integer> all) {
        all.add(match(reference, text, isAnchored));
        for (int i = 0; i < SIGNS.length() && more > 0 && all.size() < 2; i++) {
            collect(reference, text + SIGNS.charAt(i), isAnchored, more - 1, all);
        }
    }
}
