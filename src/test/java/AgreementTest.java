import java.util.HashMap;
import java.util.Map;

/** Patterns made by chance: what the bench tells of them is what the reference tells. */
public final class AgreementTest {
    private static final String[] ATOMS = {
        "a", "b", "c", "a", "b", "1", ".", "^", "$", "\\d", "\\w", "\\s", "\\D", "\\W", "\\S", "\\n", "\\b", "\\B",
        "\\A", "\\z", "\\1", "\\2", "\\k<x>", "\\.", "[ab]", "[^a]", "[a-c1]", "[\\w--b]", "[\\w&&[^a]]", "[^\\s--[bc]]",
        "[a&&b]", "[A-z]", "[&]", "[a&b]", "(?0)", "(?1)", "(?2)", "(*F)", "(*C)", "(*S)", "(?i)", "(?s)", "(?m)", "(?-i)",
        "(?&p)", "(?&q)", "A", "B", "\n", " ", "", "}", "]",
    };
    private static final String[] PLAIN_ATOMS = {
        "a", "b", "c", "a", "b", "1", ".", "\\w", "\\d", "[ab]", "[^a]", "(?i)", "[a&&b]", "A", "^", "$", "\\b", "(?&p)",
    };
    private static final String[] OPENS = {
        "(", "(", "(?:", "(?<x>", "(?<y>", "(?>", "(?=", "(?!", "(?<=", "(?<!", "(?(1)", "(?(2)", "(?i:", "(?s-i:", "(?m:",
    };
    private static final String[] PLAIN_OPENS = {"(", "(?:", "(?:", "(?<x>", "(?i:"};
    private static final String[] REPEATS = {
        "?", "*", "+", "??", "*?", "+?", "?+", "*+", "++", "{2}", "{0}", "{1,2}", "{0,2}", "{2,}", "{1,}?", "{0,3}?", "{2,3}+",
        "{,2}", "{3,2}", "{20}", "{21}",
    };
    private static final String[] PLAIN_REPEATS = {"?", "*", "+", "??", "*?", "+?", "{2}", "{0}", "{1,2}", "{2,}", "{1,}?", "{0,3}?"};
    private static final String NOISE = "()[]{}|?*+.^$\\-&<>=!:iCab1kx";
    private static final String TEXT_SIGNS = "aaaabbbc1A \nB_";

    private static Chance chance;

    private static String pattern(int depth, boolean isPlain) {
        StringBuilder made = new StringBuilder(row(depth, isPlain));
        while (chance.one(4)) {
            made.append('|').append(row(depth, isPlain));
        }
        return made.toString();
    }

    private static String row(int depth, boolean isPlain) {
        StringBuilder made = new StringBuilder();
        int items = chance.below(4);
        for (int i = 0; i < items; i++) {
            if (depth > 0 && chance.one(3)) {
                made.append(chance.of(isPlain ? PLAIN_OPENS : OPENS)).append(pattern(depth - 1, isPlain)).append(')');
            } else {
                made.append(chance.of(isPlain ? PLAIN_ATOMS : ATOMS));
            }
            if (chance.one(3)) {
                made.append(chance.of(isPlain ? PLAIN_REPEATS : REPEATS));
            }
        }
        return made.toString();
    }

    private static String noisy(String text) {
        StringBuilder made = new StringBuilder(text);
        int changes = chance.below(3);
        for (int i = 0; i < changes && made.length() > 0; i++) {
            int at = chance.below(made.length());
            if (chance.one(2)) {
                made.deleteCharAt(at);
            } else {
                made.insert(at, chance.of(NOISE));
            }
        }
        return made.toString();
    }

    private static String text(int most) {
        StringBuilder made = new StringBuilder();
        int length = chance.below(most + 1);
        for (int i = 0; i < length; i++) {
            made.append(chance.of(TEXT_SIGNS));
        }
        return made.toString();
    }

    private static int read = 0;
    private static int refused = 0;
    private static int matched = 0;
    private static int far = 0;
    private static int threaded = 0;

    public static void main(String[] args) {
        int runs = args.length > 0 ? Integer.parseInt(args[0]) : 12000;
        int seed = args.length > 1 ? Integer.parseInt(args[1]) : 1;
        Thread deep = new Thread(null, () -> check(runs, seed), "deep", 1L << 30);
        deep.start();
        try {
            deep.join();
        } catch (InterruptedException e) {
            Bench.wrong++;
        }
        System.out.println(read + " patterns, " + refused + " refused, " + matched + " matches, " + far + " too far, "
                + threaded + " taken by threads");
        Bench.end();
    }

    private static void check(int runs, int seed) {
        chance = new Chance(seed);
        for (int run = 0; run < runs && Bench.wrong < 20; run++) {
            Bench b = new Bench();
            Map<Character, String> parts = new HashMap<>();
            keep(b, parts, 'p', noisy(pattern(1, true)));
            keep(b, parts, 'q', pattern(1, false));
            String in = text(chance.one(3) ? 40 : 8);
            b.fill(0, in);
            for (int i = 0; i < 6; i++) {
                boolean isPlain = chance.one(2);
                String told = pattern(1 + chance.below(3), isPlain);
                told = chance.one(5) ? noisy(told) : told;
                if (told.length() <= 120) {
                    compare(b, told, parts, in);
                }
            }
        }
    }

    private static void keep(Bench b, Map<Character, String> parts, char letter, String told) {
        if (told.length() > 120) {
            return;
        }
        Reference reference = Reference.read(told, parts, letter);
        Bench.same("part " + letter + " " + told, b.part(letter, told), reference == null ? -1 : reference.nodes);
        if (reference != null) {
            parts.put(letter, told);
        }
    }

    private static void compare(Bench b, String told, Map<Character, String> parts, String in) {
        String what = "'" + told + "' in '" + in + "' with " + parts + ": ";
        Reference reference = Reference.read(told, parts, (char) 0);
        int number = b.pattern(told);
        Bench.same(what + "is a pattern", number >= 0, reference != null);
        if (reference == null || number < 0) {
            refused++;
            return;
        }
        read++;
        facts(b.x, number, reference, what);
        for (int i = 0; i < 3; i++) {
            searches(b.x, number, reference, in, i == 0 ? 0 : chance.below(in.length() + 1), what);
        }
        allMatches(b.x, number, reference, in, what);
    }

    private static void facts(MendBench x, int number, Reference reference, String what) {
        int engines = (reference.isTakenBy(1) ? 1 : 0) + (reference.isTakenBy(2) ? 2 : 0);
        Bench.same(what + "groups", x.groups(number), 10 * reference.groups + engines);
        Bench.same(what + "least", x.least(number), reference.least(reference.whole));
        String codes = "\n abcAB1_.";
        for (int i = 0; i < codes.length(); i++) {
            int code = codes.charAt(i);
            boolean due = reference.least(reference.whole) == 0 || reference.begins(reference.whole, code);
            Bench.same(what + "begins " + code, x.begins(number, code), due);
        }
        String literal = reference.literal();
        for (int i = 0; i <= literal.length(); i++) {
            Bench.same(what + "literal " + i, x.literal(number, i), i < literal.length() ? literal.charAt(i) : -1);
        }
        Bench.same(what + "runaway", x.runaway(number), reference.runaway());
    }

    private static void searches(MendBench x, int number, Reference reference, String in, int from, String what) {
        String where = what + "from " + from + " ";
        int due = reference.find(in, from, 1000, false);
        int steps = due == Reference.FAR ? Reference.FAR : reference.steps;
        matched += due >= 0 ? 1 : 0;
        far += due == Reference.FAR ? 1 : 0;
        for (int g = 0; g <= reference.groups; g++) {
            int dueSpan = due < 0 ? due : reference.spans[g];
            Bench.same(where + "find " + g, x.find(number, 0, from, g), dueSpan);
            Bench.same(where + "anew " + g, x.anew(number, 0, from, g), dueSpan);
            Bench.same(where + "by 0 " + g, x.by(0, number, 0, from, g), dueSpan);
        }
        Bench.same(where + "steps", x.steps(number, 0, from), steps);
        Bench.same(where + "back", x.back(number, 0, from), reference.find(in, from, 1000, true));
        threads(x, number, reference, in, from, where);
    }

    private static void threads(MendBench x, int number, Reference reference, String in, int from, String where) {
        boolean isFirst = reference.isTakenBy(1);
        boolean isSecond = reference.isTakenBy(2);
        threaded += isFirst ? 1 : 0;
        int due = isFirst ? reference.find(in, from, 200000, false) : 0;
        if (isFirst && due == Reference.FAR) {
            return;
        }
        for (int g = 0; g <= reference.groups; g++) {
            int span = due < 0 ? due : reference.spans[g];
            Bench.same(where + "by 1 " + g, x.by(1, number, 0, from, g), isFirst ? span : MendBench.NOT_TAKEN);
            boolean isTaken = isSecond && g == 0;
            Bench.same(where + "by 2 " + g, x.by(2, number, 0, from, g), isTaken ? span : MendBench.NOT_TAKEN);
        }
    }

    private static void allMatches(MendBench x, int number, Reference reference, String in, String what) {
        int from = 0;
        int count = 0;
        int found = 0;
        while (from <= in.length()) {
            found = reference.find(in, from, 1000, false);
            if (found < 0) {
                break;
            }
            Bench.same(what + "match " + count, x.match(number, 0, count), found);
            count++;
            from = found % 1000 > found / 1000 ? found % 1000 : found % 1000 + 1;
        }
        final int last = count;
        Bench.same(what + "matches", x.matches(number, 0), found == Reference.FAR ? found : count);
        Bench.fails(what + "match " + last, IndexOutOfBoundsException.class, () -> x.match(number, 0, last));
    }
}
