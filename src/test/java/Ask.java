/** Questions that tests ask of a new bench: what a text is, and what a pattern finds. */
final class Ask {
    /** All characters of texts. */
    static final String ALL = all();
    private static final Class<IllegalArgumentException> ARGUMENT = IllegalArgumentException.class;

    private Ask() {
    }

    private static String all() {
        StringBuilder all = new StringBuilder("\n");
        for (char c = 32; c <= 126; c++) {
            all.append(c);
        }
        return all.toString();
    }

    static boolean isLetter(char c) {
        return c >= 'a' && c <= 'z' || c >= 'A' && c <= 'Z';
    }

    static boolean isDigit(char c) {
        return c >= '0' && c <= '9';
    }

    /** A character that "\" makes stand for itself. */
    static boolean isSymbol(char c) {
        return c > 32 && !isLetter(c) && !isDigit(c);
    }

    static char otherCase(char c) {
        return isLetter(c) ? (char) (c ^ 32) : c;
    }

    static void isPattern(String text, boolean due) {
        Bench b = new Bench();
        Bench.same("'" + text + "' is a pattern", b.pattern(text), due ? 0 : -1);
        Bench.same("'" + text + "' leaves the draft", b.x.clear(), due ? 0 : text.length());
    }

    static void arePatterns(String... texts) {
        for (String text : texts) {
            isPattern(text, true);
        }
    }

    static void areNone(String... texts) {
        for (String text : texts) {
            isPattern(text, false);
        }
    }

    static void finds(String pattern, String text, int due) {
        findsFrom(pattern, text, 0, due);
    }

    static void findsFrom(String pattern, String text, int from, int due) {
        Bench b = new Bench();
        int number = b.pattern(pattern);
        b.fill(0, text);
        String what = "'" + pattern + "' in '" + text + "' from " + from;
        Bench.same(what, b.x.find(number, 0, from, 0), due);
        Bench.same(what + " anew", b.x.anew(number, 0, from, 0), due);
        Bench.same(what + " by 0", b.x.by(0, number, 0, from, 0), due);
        boolean isTaken = due != MendBench.TOO_FAR && b.x.groups(number) % 2 == 1;
        if (isTaken) {
            Bench.same(what + " by 1", b.x.by(1, number, 0, from, 0), due);
        }
        if (isTaken && b.x.groups(number) % 10 == 3) {
            Bench.same(what + " by 2", b.x.by(2, number, 0, from, 0), due);
        }
    }

    static void hasGroup(String pattern, String text, int group, int due) {
        Bench b = new Bench();
        int number = b.pattern(pattern);
        b.fill(0, text);
        String what = "group " + group + " of '" + pattern + "' in '" + text + "'";
        Bench.same(what, b.x.find(number, 0, 0, group), due);
        Bench.same(what + " anew", b.x.anew(number, 0, 0, group), due);
        Bench.same(what + " by 0", b.x.by(0, number, 0, 0, group), due);
        boolean isTaken = b.x.groups(number) % 2 == 1;
        Bench.same(what + " by 1", b.x.by(1, number, 0, 0, group), isTaken ? due : MendBench.NOT_TAKEN);
    }

    static void takes(String pattern, String text, int due) {
        takesFrom(pattern, text, 0, due);
    }

    static void takesFrom(String pattern, String text, int from, int due) {
        Bench b = new Bench();
        int number = b.pattern(pattern);
        b.fill(0, text);
        Bench.same("steps of '" + pattern + "' in '" + text + "' from " + from, b.x.steps(number, 0, from), due);
    }

    static void isNodes(String pattern, int due) {
        Bench.same("nodes of '" + pattern + "'", new Bench().part('z', pattern), due);
    }

    /** The last digit of groups(): which engines take it. */
    static void isTaken(String pattern, int due) {
        Bench b = new Bench();
        int number = b.pattern(pattern);
        Bench.same("'" + pattern + "' is read", number, 0);
        if (number == 0) {
            Bench.same("engines of '" + pattern + "'", b.x.groups(number) % 10, due);
            b.fill(0, "ab");
            Bench.same("'" + pattern + "' by 1", b.x.by(1, number, 0, 0, 0) == MendBench.NOT_TAKEN, due == 0);
            Bench.same("'" + pattern + "' by 2", b.x.by(2, number, 0, 0, 0) == MendBench.NOT_TAKEN, due < 3);
        }
    }

    static void isLeast(String pattern, int due) {
        Bench b = new Bench();
        Bench.same("'" + pattern + "' is read", b.pattern(pattern), 0);
        Bench.same("least of '" + pattern + "'", b.x.least(0), due);
    }

    /** The characters of those told with which a pattern can begin. */
    static void begins(String pattern, String among, String due) {
        Bench b = new Bench();
        Bench.same("'" + pattern + "' is read", b.pattern(pattern), 0);
        for (char c : among.toCharArray()) {
            Bench.same("'" + pattern + "' begins with " + c, b.x.begins(0, c), due.indexOf(c) >= 0);
        }
    }

    static void isLiteral(String pattern, String due) {
        Bench b = new Bench();
        Bench.same("'" + pattern + "' is read", b.pattern(pattern), 0);
        StringBuilder literal = new StringBuilder();
        for (int i = 0; i < 120 && b.x.literal(0, i) >= 0; i++) {
            literal.append((char) b.x.literal(0, i));
        }
        Bench.same("literal of '" + pattern + "'", literal.toString(), due);
        Bench.same("behind the literal", b.x.literal(0, due.length()), -1);
        Bench.fails("literal", ARGUMENT, () -> b.x.literal(0, -1));
    }

    static void runsAway(String pattern, int due) {
        Bench b = new Bench();
        Bench.same("'" + pattern + "' is read", b.pattern(pattern), 0);
        Bench.same("runaway of '" + pattern + "'", b.x.runaway(0), due);
    }
}
