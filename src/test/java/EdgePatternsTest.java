/** The edges that "Texts" and "Patterns" name, a sentence at a time: which texts are patterns, and of what characters. */
public final class EdgePatternsTest {
    private static final Class<IllegalArgumentException> ARGUMENT = IllegalArgumentException.class;
    private static final Class<IllegalStateException> STATE = IllegalStateException.class;
    private static final Class<IndexOutOfBoundsException> INDEX = IndexOutOfBoundsException.class;
    private static final String ALL = Ask.ALL;

    public static void main(String[] args) {
        characters();
        draft();
        wordCharacters();
        places();
        rows();
        repeatCounts();
        repeatNumbers();
        repeatStyles();
        noRepeatFollows();
        plainCharacters();
        dotAndEnds();
        kinds();
        boundaries();
        absoluteEnds();
        toldGroups();
        toldNames();
        slashes();
        classJoints();
        classOperands();
        classRanges();
        classSingles();
        classAmpersands();
        groupNumbers();
        names();
        brackets();
        conditions();
        calls();
        inclusions();
        verbs();
        switchTexts();
        switchReach();
        cases();
        dotsAndLines();
        toTheEnd();
        notThere();
        mostNodes();
        countedNodes();
        keptParts();
        rings();
        Sentence.end();
    }

    private static String times(String text, int times) {
        return text.repeat(times);
    }

    // ---- texts

    private static void characters() {
        Sentence.says("The characters are the end of a line (10) and the printable ones, 32 to 126.");
        for (int code = 0; code < 256; code++) {
            final int told = code;
            boolean is = code == 10 || code >= 32 && code <= 126;
            for (int spot = 0; spot < 4; spot++) {
                // With the code at each of the four spots, the others being good.
                final int four = 0x61616161 & ~(255 << 8 * spot) | told << 8 * spot;
                Bench b = new Bench();
                if (is) {
                    Bench.same("type " + told + " at " + spot, b.x.type(four), 4);
                } else if (told != 0 || spot != 3) {
                    Bench.fails("type " + told + " at " + spot, ARGUMENT, () -> b.x.type(four));
                    Bench.same("the draft", b.x.clear(), 0);
                }
            }
        }
    }

    private static void draft() {
        Sentence.says("A text is written into the draft, up to four characters at a time; the draft has at most 120.");
        for (int width = 1; width <= 4; width++) {
            Bench b = new Bench();
            String some = "wxyz".substring(0, width);
            for (int had = width; had <= 120; had += width) {
                Bench.same("type", b.x.type(Bench.four(some)), had);
            }
            Bench.same("the draft", b.x.clear(), 120);
            for (int room = 0; room < width; room++) {
                b.draft(times("a", 120 - room));
                final int more = Bench.four(some);
                Bench.fails("type " + width + " at " + (120 - room), STATE, () -> b.x.type(more));
                Bench.same("the draft", b.x.clear(), 120 - room);
            }
        }
    }

    private static void wordCharacters() {
        Sentence.says("Lower and upper letters, digits and \"_\" are word characters.");
        for (char c : ALL.toCharArray()) {
            boolean isWord = Ask.isLetter(c) || Ask.isDigit(c) || c == '_';
            Ask.finds("\\w", "" + c, isWord ? 1 : -1);
            Ask.finds("\\W", "" + c, isWord ? -1 : 1);
            Ask.finds("\\b", "" + c, isWord ? 0 : -1);
        }
    }

    private static void places() {
        Sentence.says("Places in a text lie ahead of its characters, from 0, and behind the last one.");
        for (int size : new int[] {0, 1, 2, 79, 80}) {
            Bench b = new Bench();
            int empty = b.pattern("");
            b.fill(1, times("a", size));
            for (int place : new int[] {0, size}) {
                Bench.same("find", b.x.find(empty, 1, place, 0), 1001 * place);
                Bench.same("anew", b.x.anew(empty, 1, place, 0), 1001 * place);
                Bench.same("by", b.x.by(2, empty, 1, place, 0), 1001 * place);
                Bench.same("steps", b.x.steps(empty, 1, place), 0);
                Bench.same("back", b.x.back(empty, 1, place), 1001 * place);
                Bench.same("place", b.x.place(b.x.mark(1, place, true)), place);
            }
            for (int wrong : new int[] {-1, size + 1}) {
                Bench.fails("find", INDEX, () -> b.x.find(empty, 1, wrong, 0));
                Bench.fails("anew", INDEX, () -> b.x.anew(empty, 1, wrong, 0));
                Bench.fails("by", INDEX, () -> b.x.by(0, empty, 1, wrong, 0));
                Bench.fails("steps", INDEX, () -> b.x.steps(empty, 1, wrong));
                Bench.fails("back", INDEX, () -> b.x.back(empty, 1, wrong));
                Bench.fails("mark", INDEX, () -> b.x.mark(1, wrong, true));
                Bench.fails("sign", INDEX, () -> b.x.sign(1, wrong));
            }
            Bench.fails("sign behind the last one", INDEX, () -> b.x.sign(1, size));
        }
    }

    // ---- rows and repeats

    private static void rows() {
        Sentence.says("A pattern is one or more rows, alternatives, with \"|\" between them; a row is any number of items, also none.");
        Ask.finds("", "a", 0);
        Ask.finds("|", "a", 0);
        Ask.finds("|a", "a", 0);
        Ask.finds("a|", "a", 1);
        Ask.finds("b|", "a", 0);
        Ask.finds("b||a", "a", 0);
        Ask.finds("()", "a", 0);
        Ask.finds("(|)b|a", "a", 1);
        Ask.finds(times("b|", 59) + "a", "ba", 1);
        Ask.finds(times("b|", 59) + "a", "a", 1);
        Ask.finds(times("a", 80), times("a", 80), 80);
        Ask.isPattern(times("|", 120), true);
    }

    /** That a repeat of "a" takes from so many up to so many rounds; -1 is without an upper bound. */
    private static void counts(String repeat, int least, int most) {
        Bench b = new Bench();
        int[] styles = {b.pattern("^a" + repeat + "$"), b.pattern("^a" + repeat + "?$"), b.pattern("^a" + repeat + "+$"),
            b.pattern("^(a)" + repeat + "$"), b.pattern("a" + repeat), b.pattern("a" + repeat + "?")};
        for (int size = 0; size <= 23; size++) {
            boolean is = size >= least && (most < 0 || size <= most);
            b.fill(0, times("a", size));
            for (int i = 0; i < 4; i++) {
                Bench.same("style " + i + " of " + repeat + " on " + size, b.x.find(styles[i], 0, 0, 0), is ? size : -1);
                int threaded = i == 2 ? MendBench.NOT_TAKEN : is ? size : -1;
                Bench.same("style " + i + " of " + repeat + " on " + size, b.x.by(1, styles[i], 0, 0, 0), threaded);
            }
            int taken = size < least ? -1 : most < 0 ? size : Math.min(size, most);
            Bench.same("greedy " + repeat + " on " + size, b.x.find(styles[4], 0, 0, 0), taken);
            Bench.same("reluctant " + repeat + " on " + size, b.x.by(2, styles[5], 0, 0, 0), size < least ? -1 : least);
        }
    }

    private static void repeatCounts() {
        Sentence.says("\"?\" (0 to 1 times), \"*\" (0 or more), \"+\" (1 or more), \"{n}\", \"{n,}\" or \"{n,m}\"");
        counts("?", 0, 1);
        counts("*", 0, -1);
        counts("+", 1, -1);
        for (int n = 0; n <= 20; n++) {
            counts("{" + n + "}", n, n);
            counts("{" + n + ",}", n, -1);
            counts("{" + n + ",20}", n, 20);
            counts("{0," + n + "}", 0, n);
        }
    }

    private static void repeatNumbers() {
        Sentence.says("with n and m of one or two digits, at most 20, n at most m.");
        for (int n = 0; n <= 99; n++) {
            Ask.isPattern("a{" + n + "}", n <= 20);
            Ask.isPattern("a{" + n + ",}", n <= 20);
            Ask.isPattern("a{" + n + ",20}", n <= 20);
            Ask.isPattern("a{0," + n + "}", n <= 20);
            Ask.isPattern("a{7," + n + "}", n >= 7 && n <= 20);
        }
        Ask.arePatterns("a{00}", "a{07}", "a{07,09}", "a{00,20}", "a{20,20}");
        Ask.areNone("a{000}", "a{007}", "a{020}", "a{200}", "a{100}", "a{1,007}", "a{0,020}", "a{1,000}", "a{}", "a{,}", "a{,1}", "a{1,,2}", "a{1;2}",
            "a{1.2}", "a{-1}", "a{+1}", "a{ 1}", "a{1 }", "a{1, 2}", "a{a}", "a{1a}", "a{:}", "a{/}", "a{", "a{1", "a{12", "a{1,", "a{1,2", "a{1,20");
        Ask.finds("a{07}", times("a", 9), 7);
        Ask.finds("a{02,03}", times("a", 9), 3);
    }

    private static void repeatStyles() {
        Sentence.says("Behind a repeat \"?\" makes it reluctant, \"+\" possessive; otherwise it is greedy.");
        String[] repeats = {"?", "*", "+", "{2}", "{1,}", "{0,3}"};
        int[] least = {0, 0, 1, 2, 1, 0};
        int[] most = {1, 5, 5, 2, 5, 3};
        for (int i = 0; i < repeats.length; i++) {
            Ask.finds("a" + repeats[i], "aaaaa", most[i]);
            Ask.finds("a" + repeats[i] + "?", "aaaaa", least[i]);
            Ask.finds("a" + repeats[i] + "+", "aaaaa", most[i]);
            // With a character more ahead of the end the greedy one gives one back, the possessive one none.
            String all = times("a", most[i]);
            Ask.finds("^a" + repeats[i] + "a$", all, most[i] > least[i] ? most[i] : -1);
            Ask.finds("^a" + repeats[i] + "?a$", all, most[i] > least[i] ? most[i] : -1);
            Ask.finds("^a" + repeats[i] + "+a$", all, -1);
        }
    }

    private static void noRepeatFollows() {
        Sentence.says("No repeat follows on another one, on a switch without a pattern, or on a verb.");
        String[] repeats = {"?", "*", "+", "{2}", "{2,}", "{2,3}"};
        String[] heads = {"(?i)", "(?-i)", "(?i-s)", "a(?m)", "(*F)", "(*C)", "(*S)", "a(*F)", "", "a|", "(", "(?:", "(?i:", "(?=", "(?>", "(?<=", "(?<x>"};
        for (String repeat : repeats) {
            for (String first : repeats) {
                for (String style : new String[] {"?", "+"}) {
                    Ask.isPattern("a" + first + style, true);
                    Ask.isPattern("a" + first + style + repeat, false);
                }
                boolean isStyle = repeat.equals("?") || repeat.equals("+");
                Ask.isPattern("a" + first + repeat, isStyle);
                Ask.isPattern("(?:a" + first + ")" + repeat, true);
            }
            for (String head : heads) {
                boolean isOpen = head.startsWith("(") && !head.endsWith(")");
                Ask.isPattern(head + repeat + (isOpen ? ")" : ""), false);
                Ask.isPattern(head + "a" + repeat + (isOpen ? ")" : ""), true);
            }
            Ask.arePatterns("(?i:a)" + repeat, "(?:(?i))" + repeat, "(?:(*F))" + repeat, "(?:)" + repeat, "()" + repeat, "\\b" + repeat, "(?0)" + repeat);
            Ask.isPattern("(?(1)" + repeat + ")()", false);
            Ask.isPattern("(?(1)a|" + repeat + ")()", false);
        }
    }

    // ---- characters and escapes

    private static void plainCharacters() {
        Sentence.says("a character that is none of \\ ( ) [ | ? * + { . ^ $ stands for itself.");
        String none = "\\()[|?*+{.^$";
        Bench.same("characters", ALL.length(), 96);
        for (char c : ALL.toCharArray()) {
            if (none.indexOf(c) < 0) {
                standsFor("" + c, c);
            } else {
                Ask.isPattern("" + c, "|.^$".indexOf(c) >= 0);
            }
        }
    }

    /** That a pattern is just one character. */
    private static void standsFor(String pattern, char c) {
        Bench b = new Bench();
        int number = b.pattern(pattern);
        Bench.same("'" + pattern + "' is a pattern", number, 0);
        if (number == 0) {
            Bench.same("literal of '" + pattern + "'", b.x.literal(number, 0), c);
            Bench.same("literal of '" + pattern + "'", b.x.literal(number, 1), -1);
            Bench.same("groups of '" + pattern + "'", b.x.groups(number), 3);
        }
    }

    /** Which of all characters a pattern has, as the first one and in a text. */
    private static void isOf(String pattern, String due) {
        Bench b = new Bench();
        int number = b.pattern(pattern);
        Bench.same("'" + pattern + "' is a pattern", number, 0);
        if (number != 0) {
            return;
        }
        StringBuilder begun = new StringBuilder();
        StringBuilder found = new StringBuilder();
        for (int half = 0; half < 2; half++) {
            String some = ALL.substring(48 * half, 48 * half + 48);
            b.fill(0, some);
            for (int i = 0; i < some.length(); i++) {
                found.append(b.x.find(number, 0, i, 0) == 1001 * i + 1 ? "" + some.charAt(i) : "");
                begun.append(b.x.begins(number, some.charAt(i)) ? "" + some.charAt(i) : "");
            }
        }
        Bench.same("'" + pattern + "' begins", begun.toString(), due);
        Bench.same("'" + pattern + "' finds", found.toString(), due);
    }

    private static String without(String all, String some) {
        StringBuilder rest = new StringBuilder();
        for (char c : all.toCharArray()) {
            rest.append(some.indexOf(c) < 0 ? "" + c : "");
        }
        return rest.toString();
    }

    private static void dotAndEnds() {
        Sentence.says("\".\" is each character but 10.");
        isOf(".", without(ALL, "\n"));
        Sentence.says("\"^\" and \"$\" are the beginning and the end of the text.");
        for (String text : new String[] {"", "\n", "\n\n", "a", "a\na", times("\n", 80)}) {
            for (int from = 0; from <= text.length(); from++) {
                Ask.findsFrom("^", text, from, from == 0 ? 0 : -1);
                Ask.findsFrom("$", text, from, 1001 * text.length());
            }
        }
    }

    private static final String DIGITS = "0123456789";
    private static final String UPPERS = "ABCDEFGHIJKLMNOPQRSTUVWXYZ";
    private static final String LOWERS = "abcdefghijklmnopqrstuvwxyz";
    private static final String WORDS = DIGITS + UPPERS + "_" + LOWERS;
    private static final String BLANKS = "\n ";

    private static void kinds() {
        Sentence.says("\"\\d\" a digit, \"\\w\" a word character, \"\\s\" a blank or 10; \"\\D\", \"\\W\", \"\\S\" each other character; \"\\n\" 10;");
        isOf("\\d", DIGITS);
        isOf("\\w", WORDS);
        isOf("\\s", BLANKS);
        isOf("\\D", without(ALL, DIGITS));
        isOf("\\W", without(ALL, WORDS));
        isOf("\\S", without(ALL, BLANKS));
        isOf("\\n", "\n");
        isOf("(?i)\\w", WORDS);
        isOf("(?i)\\D", without(ALL, DIGITS));
        isOf("(?i)\\n", "\n");
    }

    private static void boundaries() {
        Sentence.says("\"\\b\" a place between a word character and none (the ends of the text count as none), \"\\B\" each other place;");
        String[] texts = {"", "a", " ", "aa", "a ", " a", "  ", "_-Z", "0\n9"};
        String[] bounds = {"", "01", "", "02", "01", "12", "", "0123", "0123"};
        for (int i = 0; i < texts.length; i++) {
            for (int place = 0; place <= texts[i].length(); place++) {
                boolean is = bounds[i].indexOf('0' + place) >= 0;
                Bench b = new Bench();
                int bound = b.pattern("\\b");
                int other = b.pattern("\\B");
                b.fill(0, texts[i]);
                String what = " at " + place + " in '" + texts[i] + "'";
                Bench.same("\\b" + what, b.x.find(bound, 0, place, 0) == 1001 * place, is);
                Bench.same("\\B" + what, b.x.find(other, 0, place, 0) == 1001 * place, !is);
                Bench.same("\\b by 1" + what, b.x.by(1, bound, 0, place, 0) == 1001 * place, is);
                Bench.same("\\B by 1" + what, b.x.by(1, other, 0, place, 0) == 1001 * place, !is);
            }
        }
    }

    private static void absoluteEnds() {
        Sentence.says("\"\\A\" and \"\\z\" the beginning and the end of the text;");
        for (String text : new String[] {"", "\n", "\n\n", "a\nb"}) {
            for (String on : new String[] {"", "(?m)"}) {
                for (int from = 0; from <= text.length(); from++) {
                    Ask.findsFrom(on + "\\A", text, from, from == 0 ? 0 : -1);
                    Ask.findsFrom(on + "\\z", text, from, 1001 * text.length());
                }
            }
        }
    }

    private static void toldGroups() {
        Sentence.says("\"\\1\" to \"\\9\" what the group with that number has;");
        String nine = "(a)(b)(c)(d)(e)(f)(g)(h)(i)";
        for (int n = 1; n <= 9; n++) {
            Ask.finds(nine + "\\" + n, "abcdefghi" + (char) ('a' + n - 1), 10);
            Ask.finds(nine + "\\" + n, "abcdefghi" + (char) ('a' + n % 9), -1);
            String one = times("()", n - 1);
            Ask.isPattern(one + "()\\" + n, true);
            Ask.isPattern("\\" + n + one + "()", true);
            Ask.isPattern(one + "\\" + n, false);
        }
        Ask.isPattern(nine + "\\0", false);
        // A second digit is a character of its own.
        Ask.finds("(a)\\10", "aa0", 3);
        Ask.finds(nine + "\\10", "abcdefghia0", 11);
    }

    private static void toldNames() {
        Sentence.says("\"\\k<x>\", x a lower letter, what the group with that name has;");
        for (char c : ALL.toCharArray()) {
            boolean isLower = c >= 'a' && c <= 'z';
            Ask.isPattern("(?<" + (isLower ? c : 'a') + ">b)\\k<" + c + ">", isLower);
        }
        Ask.finds("(?<a>x)(?<z>y)\\k<z>\\k<a>", "xyyx", 4);
        Ask.finds("(?<a>x)(?<z>y)\\k<z>\\k<a>", "xyxy", -1);
        Ask.areNone("(?<a>)\\k", "(?<a>)\\k<", "(?<a>)\\k<a", "(?<a>)\\k<>", "(?<a>)\\ka>", "(?<a>)\\ka", "(?<a>)\\k<aa>", "(?<a>)\\k<1>", "(?<a>)\\k{a}",
            "(?<a>)\\k<a)", "(?<a>)\\k<b>", "(a)\\k<a>");
    }

    private static void slashes() {
        Sentence.says("\"\\\" ahead of a printable character that is neither a letter, nor a digit, nor a blank, that character.");
        for (char c : ALL.toCharArray()) {
            if (Ask.isSymbol(c)) {
                standsFor("\\" + c, c);
            }
        }
        Sentence.says("No other character follows on \"\\\".");
        for (char c : ALL.toCharArray()) {
            boolean isKnown = Ask.isSymbol(c) || "dwsDWSnbBAz".indexOf(c) >= 0;
            Ask.isPattern("\\" + c, isKnown);
            Ask.isPattern("a\\" + c + "a", isKnown);
        }
        Ask.areNone("\\", "a\\", "(\\)", "\\\\\\");
    }

    // ---- classes

    private static void classJoints() {
        Sentence.says("perhaps \"^\" first, which makes it each other character; then operands, with \"&&\" (both) or \"--\" (the first, not the second) between them, from left to right.");
        isOf("[^a]", without(ALL, "a"));
        isOf("[^\\d\\D]", "");
        isOf("[^a&&b]", ALL);
        isOf("[^a-c--b]", without(ALL, "ac"));
        isOf("[^^]", without(ALL, "^"));
        isOf("[a^]", "^a");
        isOf("[a&&^a]", "a");
        isOf("[ab^--^]", "ab");
        isOf("[a-c&&b-d]", "bc");
        isOf("[a-c--b]", "ac");
        isOf("[a-c--b-d]", "a");
        isOf("[a--b&&b]", "");
        isOf("[a-d--b&&b-d]", "cd");
        isOf("[a-c&&b--b]", "");
        isOf("[a-c--b--c]", "a");
        isOf("[a-d&&b-d&&c]", "c");
        isOf("[a-c--[b-d--c]]", "ac");
        isOf("[^a-c--[^b]]", without(ALL, "b"));
        isOf("[[^a]&&[^b]--[c-~]]", without(ALL.substring(0, ALL.indexOf('c')), "ab"));
        Ask.areNone("[^", "[^]", "[^a", "[^^", "[a&&", "[a--");
    }

    private static void classOperands() {
        Sentence.says("An operand is one or more of: a class;");
        Ask.areNone("[]", "[^]", "[]a]", "[^]a]", "[[]]", "[a[]]", "[[^]]", "[&&]", "[--]", "[&&a]", "[--a]", "[a&&]", "[a--]", "[a&&&&b]", "[a----b]",
            "[a&&--b]", "[a--&&b]", "[^&&a]", "[^--a]", "[a&&[]]");
        isOf("[a]", "a");
        isOf("[[a]]", "a");
        isOf("[[[[[[[[[[a]]]]]]]]]]", "a");
        isOf(times("[", 59) + "a" + times("]", 59), "a");
        isOf("[[a][b]c\\d]", "0123456789abc");
        isOf("[\\w\\W]", ALL);
        isOf("[\\s\\S]", ALL);
        isOf("[\\d\\D]", ALL);
        isOf("[aaa]", "a");
        Ask.areNone(times("[", 60) + "a" + times("]", 58), times("[", 120), times("[^", 60), "[a", "[[a]", "[a]]?]*[", "[\\w");
    }

    private static void classRanges() {
        Sentence.says("a range, a single character, \"-\", and a single character that is not lower.");
        isOf("[a-a]", "a");
        isOf("[a-b]", "ab");
        isOf("[ -~]", without(ALL, "\n"));
        isOf("[\\n-~]", ALL);
        isOf("[\\n- ]", "\n ");
        isOf("[\n-!]", "\n !");
        isOf("[!-\\-]", "!\"#$%&'()*+,-");
        isOf("[\\--\\/]", "-./");
        isOf("[\\[-\\]]", "[\\]");
        isOf("[?-\\[]", "?@" + UPPERS + "[");
        isOf("[a-cx-z]", "abcxyz");
        Ask.areNone("[b-a]", "[~- ]", "[ -\\n]", "[ -\n]", "[a-]", "[-a]", "[-]", "[a-b-c]", "[a-\\d]", "[\\d-a]", "[a-[b]]", "[[a]-b]", "[a-]]", "[a-&&b]",
            "[!-&&a]", "[a-b", "[a-", "[z-\\a]", "[A-[b]]", "[A-[b]", "[A-[]", "[!-]]", "[!-]", "[!-[]]", "[!--]", "[A-\\w]");
    }

    private static void classSingles() {
        Sentence.says("Single are \"\\n\", \"\\\" ahead of a printable character as above, and each character but \\ [ ] -;");
        for (char c : ALL.toCharArray()) {
            if ("\\[]-".indexOf(c) >= 0) {
                // Behind a "]" that ends the class a further one stands for itself.
                Ask.areNone("[" + c + "]", "[x" + c + (c == ']' ? "" : "]") + "[]");
            } else {
                // A "^" is one where it is not the first.
                isOf("[x" + c + "]", c < 'x' ? c + "x" : c == 'x' ? "x" : "x" + c);
                isOf((c == '^' ? "[^" : "[") + c + "]", c == '^' ? without(ALL, "^") : "" + c);
                Ask.isLiteral("[" + (c == '^' ? "\\" : "") + c + "]", "" + c);
            }
            boolean isEscaped = Ask.isSymbol(c) || c == 'n';
            if (isEscaped) {
                isOf("[\\" + c + "]", c == 'n' ? "\n" : "" + c);
            } else {
                Ask.isPattern("[\\" + c + "]", "dwsDWS".indexOf(c) >= 0);
            }
        }
    }

    private static void classAmpersands() {
        Sentence.says("a \"&\" that is followed by another \"&\" is no single one but the sign between operands.");
        isOf("[&]", "&");
        isOf("[&a]", "&a");
        isOf("[a&]", "&a");
        isOf("[&-a]", ALL.substring(ALL.indexOf('&'), ALL.indexOf('a') + 1));
        isOf("[!-&]", "!\"#$%&");
        isOf("[a&b&c]", "&abc");
        isOf("[a&&a]", "a");
        isOf("[a&&&a]", "a");
        isOf("[a&&&]", "");
        isOf("[&\\&]", "&");
        isOf("[a\\&&]", "&a");
        Ask.areNone("[&&]", "[&&a]", "[a&&]", "[a&&&&]", "[&&&]", "[!-&&]", "[!-&&a]");
        isOf("[a\\&&&a]", "a");
    }

    // ---- groups and brackets

    private static void groupNumbers() {
        Sentence.says("groups are numbered from 1 as they begin, at most 9.");
        for (int n = 0; n <= 12; n++) {
            Ask.isPattern(times("()", n), n <= 9);
            Ask.isPattern(times("(", n) + times(")", n), n <= 9);
            Ask.isPattern(times("()", Math.max(0, n - 1)) + (n > 0 ? "(?<x>)" : ""), n <= 9);
            Bench b = new Bench();
            Bench.same("a part", b.part('g', "()()()"), 3);
            Bench.same(n + " and 3 groups", b.pattern(times("()", n) + "(?&g)"), n + 3 <= 9 ? 0 : -1);
        }
        for (int n = 1; n <= 9; n++) {
            Bench b = new Bench();
            int number = b.pattern(times("(", n) + "a" + times(")", n));
            b.fill(0, "a");
            Bench.same("groups", b.x.groups(number), 10 * n + 3);
            Bench.same("the last group", b.x.find(number, 0, 0, n), 1);
            final int more = n + 1;
            Bench.fails("a group more", INDEX, () -> b.x.find(number, 0, 0, more));
        }
        Ask.hasGroup("((a)(b(c)))(d)", "abcd", 1, 3);
        Ask.hasGroup("((a)(b(c)))(d)", "abcd", 2, 1);
        Ask.hasGroup("((a)(b(c)))(d)", "abcd", 3, 1003);
        Ask.hasGroup("((a)(b(c)))(d)", "abcd", 4, 2003);
        Ask.hasGroup("((a)(b(c)))(d)", "abcd", 5, 3004);
        Ask.hasGroup("(?:a)(?>b)(?<x>c)(d)", "abcd", 1, 2003);
        Ask.hasGroup("(?:a)(?>b)(?<x>c)(d)", "abcd", 2, 3004);
    }

    private static void names() {
        Sentence.says("a group with the name x, a lower letter, no two alike.");
        for (char c : ALL.toCharArray()) {
            boolean isLook = c == '=' || c == '!';
            Ask.isPattern("(?<" + c + ">a)", isLook || c >= 'a' && c <= 'z');
        }
        for (char c = 'a'; c <= 'z'; c++) {
            Ask.isPattern("(?<" + c + ">)(?<" + c + ">)", false);
            Ask.isPattern("(?<" + c + ">)(?<" + (c == 'z' ? 'a' : (char) (c + 1)) + ">)", true);
        }
        Ask.areNone("(?<a>(?<a>))", "(?<a>)|(?<a>)", "(?<a>)()(?<a>)", "(?<>a)", "(?<ab>a)", "(?<a)", "(?<a", "(?<", "(?<a>", "(?<a>a", "(?'a'a)", "(?a>a)",
            "(?<a>)(?<b>)(?<c>)(?<d>)(?<e>)(?<f>)(?<g>)(?<h>)(?<i>)(?<j>)");
        Ask.areNone("(a(?<A>b)", "(a(?<>b)", "(a(?<ab>c)", "a(?<A>b", "a(?<a", "a(?<a>", "a(?<", "a(?<1>b", "a(?<a>)(?<a>b", "a(?<ab");
        Ask.arePatterns("(?<a>)(?<b>)(?<c>)(?<d>)(?<e>)(?<f>)(?<g>)(?<h>)(?<i>)", "(?<a>(?<b>))", "(?<a>>)");
    }

    private static void brackets() {
        Sentence.says("\"(?=\", \"(?!\", \"(?<=\", \"(?<!\" pattern \")\" looks ahead, ahead for nothing, behind, and behind for nothing.");
        String[] opens = {"(", "(?:", "(?>", "(?=", "(?!", "(?<=", "(?<!", "(?<x>", "(?i:", "(?-i:", "(?ism-ism:"};
        for (String open : opens) {
            Ask.arePatterns(open + ")", open + "a)", open + "|)", open + "a|b)", open + open.replace("x", "y") + "a))");
            Ask.areNone(open, open + "a", open + "a))", open + "))", open + "|", "a" + open);
        }
        Ask.finds("a(?=b)", "aab", 1002);
        Ask.finds("a(?!a)", "aab", 1002);
        Ask.finds("(?<=a)b", "bab", 2003);
        Ask.finds("(?<!a)b", "abb", 2003);
        Ask.finds("(?<!a)b", "b", 1);
        Ask.finds("a(?!.)", "aa", 1002);
        Ask.areNone(")", "a)", "())", "(?", "(?)", "(?a)", "(?#)", "(?_)", "(? )", "(?|a)", "(?P<a>)", "(?<", "(?<)", "(?<*a)", "(?==", "(?!", "(?\n)");
    }

    private static void conditions() {
        Sentence.says("n from 1 to 9, a condition: the first row if the group n has something, otherwise the second one (without one, nothing).");
        String nine = times("(x)?", 9);
        for (char c : ALL.toCharArray()) {
            Ask.isPattern(nine + "(?(" + c + ")a)", c >= '1' && c <= '9');
        }
        for (int n = 1; n <= 9; n++) {
            String ahead = times("(x)?", n - 1);
            Ask.finds("^" + ahead + "(y)(?(" + n + ")a|b)$", "ya", 2);
            Ask.finds("^" + ahead + "(y)(?(" + n + ")a|b)$", "yb", -1);
            Ask.finds("^" + ahead + "(y)?(?(" + n + ")a|b)$", "b", 1);
            Ask.finds("^" + ahead + "(y)?(?(" + n + ")a)$", "", 0);
            Ask.finds("^" + ahead + "(y)?(?(" + n + ")a)$", "a", -1);
        }
        Ask.arePatterns("()(?(1))", "()(?(1)|)", "()(?(1)|a)", "()(?(1)a|)", "(?(1)a|b)()", "()(?(1)(?(1)a|b)|(?(1)c|d))");
        Ask.areNone("(?(1)|a|b)()", "(?(1)||)()", "(?(1)a|b|)()", "()(?(1)a|b|c)", "()(?(1)||)", "()(?(10)a)", "()(?(01)a)", "()(?()a)", "()(?(1a)", "()(?(1)a", "()(?(1)", "()(?(1", "()(?(", "()(?(1)a|b",
            "()(?(-1)a)", "(?<x>)(?(<x>)a)", "(?<x>)(?(x)a)", "(?(1)a)", "()(?(2)a)", "()()()()()()()()(?(9)a)");
    }

    private static void calls() {
        Sentence.says("\"(?n)\", n from 0 to 9, a call of the group n, of the whole pattern for 0.");
        String nine = times("(x)?", 9);
        for (char c : ALL.toCharArray()) {
            boolean isOther = "ism:>=!".indexOf(c) >= 0;
            Ask.isPattern(nine + "(?" + c + ")", isOther || Ask.isDigit(c));
        }
        for (int n = 1; n <= 9; n++) {
            Ask.finds("^" + times("(x)?", n - 1) + "(y)(?" + n + ")$", "yy", 2);
            Ask.finds("^" + times("(x)?", n - 1) + "(y)(?" + n + ")$", "yx", -1);
            Ask.isPattern(times("()", n - 1) + "(?" + n + ")", false);
        }
        Ask.finds("^(?:a(?:(?0)|b)$|c)", "ab", 2);
        Ask.finds("a(?0)?b", "aabb", 4);
        Ask.finds("(?0)b|a", "ab", 2);
        Ask.finds("(?0)b|a", "abb", 3);
        Ask.finds("x(?0)y|a", "xay", 3);
        Ask.finds("x(?0)y|a", "xxayy", 5);
        // It is the group that is called, not a condition of that number or another bracket.
        Ask.finds("(a)(?(1)b)(?1)", "aba", 3);
        Ask.finds("(a)(?(1)b)(?1)", "abb", -1);
        Ask.finds("(a)(?:b)(?0)?", "abab", 4);
        Ask.finds("(a)(?=b)(?i:b)(?1)", "aba", 3);
        Ask.areNone("()(?10)", "()(?01)", "()(?1", "()(?", "()(?+1)", "()(?-1)", "()(?1:a)", "()(?1a)", "()(?R)", "(?1)");
    }

    private static void inclusions() {
        Sentence.says("\"(?&x)\", x a lower letter, is as if \"(?:\", the text of the part x, and \")\" stood there.");
        for (char c : ALL.toCharArray()) {
            boolean isLower = c >= 'a' && c <= 'z';
            Bench one = new Bench();
            Bench.same("part", one.part(isLower ? c : 'a', "x"), 1);
            Bench.same("(?&" + c + ")", one.pattern("(?&" + c + ")"), isLower ? 0 : -1);
        }
        Bench b = new Bench();
        b.part('a', "a|b");
        int twice = b.pattern("^(?&a){2}$");
        int among = b.pattern("^x(?&a)y$");
        b.fill(0, "ab");
        Bench.same("it is repeated whole", b.x.find(twice, 0, 0, 0), 2);
        b.fill(0, "xby");
        Bench.same("its alternatives are its own", b.x.find(among, 0, 0, 0), 3);
        b.fill(0, "by");
        Bench.same("its alternatives are its own", b.x.find(among, 0, 0, 0), -1);
        for (String wrong : new String[] {"(?&)", "(?&", "(?&a", "(?&ab)", "(?&A)", "(?&1)", "(?a)", "x(?&", "x(?&b", "x(?&A", "x(?&b)", "x(?&a", "(x(?&b)", "(x(?&A)", "(x(?&)", "(?&a:)", "(?&b)"}) {
            Bench.same(wrong, b.pattern(wrong), -1);
        }
    }

    private static void verbs() {
        Sentence.says("Verbs: \"(*F)\" fails, \"(*C)\" commits, \"(*S)\" skips.");
        for (char c : ALL.toCharArray()) {
            Ask.isPattern("(*" + c + ")", "FCS".indexOf(c) >= 0);
        }
        Ask.areNone("(a(*)", "(a(*x)", "(a(*F)(", "a(*", "a(*F", "a(*x", "a(*F(", "(*", "(*F", "(*)", "(*FF)", "(*F:a)", "(*FAIL)", "(* F)", "(?*F)", "(*f)", "*F)");
        Ask.finds("a(*F)|b", "ab", 1002);
        Ask.finds("a(*C)(?!)|b", "ab", -1);
        Ask.finds("a(*S)(?!)|b", "ab", 1002);
    }

    private static void switchTexts() {
        Sentence.says("one or more of the letters i, s, m, perhaps \"-\" and one or more of these, or \"-\" and one or more alone,");
        for (String end : new String[] {")", ":)", ":a)", ":a|b)"}) {
            for (String on : new String[] {"i", "s", "m", "ii", "ism", "ssmmii", "-i", "-s", "-m", "-ism", "-iii", "i-i", "i-s", "ism-ism", "sm-iis"}) {
                Ask.isPattern("(?" + on + end, true);
            }
            for (String on : new String[] {"-", "i-", "--i", "i--s", "i-s-m", "-i-s", "i s", " i", "i ", "I", "S", "M", "x", "ix", "-x", "i1", "i,s"}) {
                Ask.isPattern("(?" + on + end, false);
            }
        }
        Ask.areNone("(?)", "(?i", "(?i-s", "(?i:", "(?i:a", "(?-", "(?i-", "(i)*)", "(?i;a)", "(?i))");
        // Behind an atom, and without an end: nothing of it is read in another way.
        Ask.areNone("(a(?)", "(a(?-)", "(a(?i-)", "(a(?x)", "(a(?ix)", "a(?", "a(?i", "a(?-", "a(?i-", "a(?i-s", "a(?x", "a(?i:", "a(?-:a)", "a(?i-:a)");
        Ask.isPattern("(?" + times("i", 117) + ")", true);
        Ask.isPattern("(?" + times("ism", 38) + "-i)", true);
    }

    private static void switchReach() {
        Sentence.says("switches those ahead of \"-\" on, those behind off, up to the end of the part in which it stands, alternatives to come included;");
        Ask.finds("(?i)a", "A", 1);
        Ask.finds("(?i-i)a", "A", -1);
        Ask.finds("(?i)a(?-i)b", "AB", -1);
        Ask.finds("(?i)a(?-i)b", "Ab", 2);
        Ask.finds("(?i-s)A(?s-i).", "a\n", 2);
        Ask.finds("x|(?i)a|b", "B", 1);
        Ask.finds("b|(?i)a", "B", -1);
        for (String open : new String[] {"(", "(?:", "(?>", "(?=", "(?<x>", "(?s:", "(?!(?!", "(?<=(?="}) {
            String close = open.lastIndexOf("(") > 0 ? "))" : ")";
            Ask.finds("^" + open + "(?i)x|(?=b)" + close + "b", "B", -1);
            Ask.finds("^" + open + "(?i)x|(?=b)" + close + "B", "B", 1);
        }
        Ask.finds("(?:(?i)a)a", "AA", -1);
        Ask.finds("(?:(?i)a)a", "Aa", 2);
        Ask.finds("(?i)(?:(?-i)a)a", "aA", 2);
        Ask.finds("(?i)(?:(?-i)a)a", "AA", -1);
        Ask.finds("()(?(1)(?i)a|b)a", "AA", -1);
        Ask.finds("()?(?(1)(?i)|a)a", "A", -1);
        Ask.finds("(x)?(?(1)(?i)a|b)a", "Ba", 2);
        // Each switch is its own.
        for (String on : new String[] {"", "i", "s", "m", "is", "im", "sm", "ism"}) {
            for (String off : new String[] {"", "i", "s", "m", "ism"}) {
                String told = (on.isEmpty() ? "" : "(?" + on + ")") + (off.isEmpty() ? "" : "(?-" + off + ")");
                Ask.finds(told + "a", "A", on.contains("i") && !off.contains("i") ? 1 : -1);
                Ask.finds(told + ".", "\n", on.contains("s") && !off.contains("s") ? 1 : -1);
                Ask.finds(told + "^a", "\na", on.contains("m") && !off.contains("m") ? 1002 : -1);
                Ask.finds(told + "a$", "a\n", on.contains("m") && !off.contains("m") ? 1 : -1);
            }
        }
        Sentence.says("\":\" pattern \")\" in place of \")\" does so for that pattern alone.");
        Ask.finds("(?i:a)a", "Aa", 2);
        Ask.finds("(?i:a)a", "AA", -1);
        Ask.finds("(?i:b|a)a", "Aa", 2);
        Ask.finds("(?i)(?-i:a)a", "aA", 2);
        Ask.finds("(?i)(?-i:a)a", "AA", -1);
        Ask.finds("(?s:.).", "\n\n", -1);
        Ask.finds("(?s)(?-s:.).", "a\n", 2);
        Ask.finds("(?m:^)a", "b\na", 2003);
        Ask.finds("(?m)(?-m:^)a", "b\na", -1);
        Sentence.says("They are off at first.");
        Ask.finds("a", "A", -1);
        Ask.finds(".", "\n", -1);
        Ask.finds("a$", "a\n", -1);
        Ask.finds("^a", "\na", -1);
        Bench b = new Bench();
        b.pattern("(?ism)a");
        int next = b.pattern("a");
        b.fill(0, "A");
        Bench.same("those of a pattern ahead are no more on", b.x.find(next, 0, 0, 0), -1);
        Bench.same("nor is one that was refused", b.pattern("(?i)("), -1);
        next = b.pattern("a");
        Bench.same("nor is one that was refused", b.x.find(next, 0, 0, 0), -1);
    }

    private static void cases() {
        Sentence.says("With i letters in classes and alone stand for both cases (in a class each single character and range, ahead of \"^\", \"&&\" and \"--\"), and what groups have is compared so;");
        for (char c : ALL.toCharArray()) {
            char other = Ask.otherCase(c);
            String both = Ask.isLetter(c) ? "" + (char) Math.min(c, other) + (char) Math.max(c, other) : "" + c;
            String escaped = Ask.isSymbol(c) ? "\\" + c : "" + c;
            isOf("(?i)" + escaped, both);
            isOf("(?i)[" + escaped + "]", both);
            isOf("(?i)[^" + escaped + "]", without(ALL, both));
            isOf("(?i)[" + escaped + "-" + escaped + "]", both);
        }
        isOf("(?i)[@-\\[]", "@" + UPPERS + "[" + LOWERS);
        isOf("(?i)[`-\\{]", UPPERS + "`" + LOWERS + "{");
        isOf("(?i)[Z-a]", "AZ[\\]^_`az");
        isOf("(?i)[a-z--A]", without(UPPERS + LOWERS, "Aa"));
        isOf("(?i)[a-c&&B-D]", "BCbc");
        isOf("(?i)[^a-y]", without(ALL, without(UPPERS + LOWERS, "Zz")));
        isOf("(?i)[a[b]]", "ABab");
        isOf("(?i)[a--[^b]]", "");
        for (char c : ALL.substring(1).toCharArray()) {
            char near = (char) (c ^ 32);
            if (near >= 32 && near <= 126) {
                String pair = "" + c + near;
                boolean isSame = Ask.isLetter(c);
                Ask.finds("(?i)(.)\\1", pair, isSame ? 2 : -1);
                Ask.finds("(?<x>.)(?i:\\k<x>)", pair, isSame ? 2 : -1);
                Ask.finds("(.)\\1", pair, -1);
                Ask.finds("(?<x>.)\\k<x>", pair, -1);
                Ask.finds("(?i:(?<x>.))\\k<x>", pair, -1);
            }
        }
        Ask.finds("(?i)(aB)\\1", "AbaB", 4);
        Ask.finds("(?i:(aB))\\1", "AbaB", -1);
    }

    private static void dotsAndLines() {
        Sentence.says("with s \".\" is 10, too;");
        isOf("(?s).", ALL);
        isOf("(?s:.)", ALL);
        isOf("(?s-s).", without(ALL, "\n"));
        Sentence.says("with m \"^\" and \"$\" are also the places behind and ahead of 10.");
        String[] texts = {"", "\n", "\n\n", "a\n", "\na", "a\nb", "ab"};
        String[] begins = {"0", "01", "012", "02", "01", "02", "0"};
        String[] ends = {"0", "01", "012", "12", "02", "13", "2"};
        for (int i = 0; i < texts.length; i++) {
            for (int place = 0; place <= texts[i].length(); place++) {
                Bench b = new Bench();
                int begin = b.pattern("(?m)^");
                int end = b.pattern("(?m)$");
                b.fill(0, texts[i]);
                String what = " at " + place + " in '" + texts[i] + "'";
                Bench.same("^" + what, b.x.find(begin, 0, place, 0) == 1001 * place, begins[i].indexOf('0' + place) >= 0);
                Bench.same("$" + what, b.x.find(end, 0, place, 0) == 1001 * place, ends[i].indexOf('0' + place) >= 0);
                Bench.same("^ by 1" + what, b.x.by(1, begin, 0, place, 0) == 1001 * place, begins[i].indexOf('0' + place) >= 0);
                Bench.same("$ by 1" + what, b.x.by(1, end, 0, place, 0) == 1001 * place, ends[i].indexOf('0' + place) >= 0);
            }
        }
    }

    // ---- what is no pattern, and parts

    private static void toTheEnd() {
        Sentence.says("A text is no pattern if it cannot be read so to its end,");
        String good = "(a|[b-d]{1,2}?(?=\\w)(?<x>e)\\k<x>)";
        Ask.isPattern(good, true);
        for (String more : new String[] {")", "(", "[", "\\", "|)", "{", "{1}{1}", "(?", "(*"}) {
            Ask.isPattern(good + more, false);
            Ask.isPattern("(?:" + good + more + ")", false);
        }
        Ask.areNone("a)(b", "a)b(", ")(", "a)|(b", "(a))((b)", "[a]](", "a](", "(a]", "(a[)]");
        Ask.isPattern(times("a", 119) + "(", false);
        Ask.isPattern(times("a", 119) + "\\", false);
        Ask.isPattern(times("a", 120), true);
        // Of all shorter beginnings those alone that end behind an item are patterns.
        Ask.areNone("(", "(a", "(a|", "(a|[", "(a|[b", "(a|[b-", "(a|[b-d", "(a|[b-d]", "(a|[b-d]{", "(a|[b-d]{1", "(a|[b-d]{1,", "(a|[b-d]{1,2}?(",
            "(a|[b-d]{1,2}?(?", "(a|[b-d]{1,2}?(?=\\w");
    }

    private static void notThere() {
        Sentence.says("if a group, name or part that it tells is not there (groups and names may come later),");
        Ask.areNone("\\1", "(a)\\2", "\\2(a)", "\\k<a>", "(?<b>)\\k<a>", "\\k<b>(?<a>)", "(a)\\k<a>", "(?1)", "(?2)()", "()(?2)", "(?(1)a)", "()(?(2)a)",
            "(?(2)a)()", "(?&a)", "(?<a>)(?&a)", "(?:\\1){0}", "(?!\\1)");
        Ask.arePatterns("\\1()", "()\\1", "(\\1)", "\\k<a>(?<a>)", "(?<a>\\k<a>)", "(?<a>)\\k<a>", "(?1)()", "(?(1)a)()", "((?(1)a))", "((?1))", "(?0)",
            "\\9(?9)(?(9))()()()()()()()()()");
        Bench b = new Bench();
        Bench.same("a part is not there yet", b.pattern("(?&a)"), -1);
        Bench.same("a part tells groups of its own text", b.part('a', "\\1"), -1);
        Bench.same("a part tells names of its own text", b.part('a', "\\k<a>"), -1);
        Bench.same("a part", b.part('b', "(?<a>)"), 1);
        Bench.same("names of a part are there", b.pattern("(?&b)\\k<a>\\1(?1)"), 0);
        Bench.same("ahead of it, too", b.pattern("\\k<a>\\1(?1)(?&b)"), 1);
    }

    private static void mostNodes() {
        Sentence.says("or if it has more than 150 nodes.");
        // What counts one node, as the last one.
        String[] ones = {"x", ".", "^", "$", "[a[b]--c]", "\\d", "\\n", "\\b", "\\B", "\\A", "\\z", "\\1", "\\k<x>", "\\.", "()", "(?<y>)", "(?:)", "(?>)",
            "(?=)", "(?!)", "(?<=)", "(?<!)", "(?(1))", "(?0)", "(?1)", "(?&e)", "(*F)", "(*C)", "(*S)", "(?i:)", "|", "*", "{2,3}?", "?+"};
        for (String one : ones) {
            Bench b = new Bench();
            Bench.same("an empty part", b.part('e', ""), 0);
            Bench.same("a part of 100", b.part('h', times("h", 100)), 100);
            // 1 for the group x, 101 for the part, and 47.
            String ahead = "(?<x>)(?&h)" + times("a", 47);
            Bench.same("150 with " + one, b.part('z', ahead + one), 150);
            Bench.same("151 with " + one, b.part('z', ahead + "a" + one), -1);
            Bench.same("150 with " + one, b.pattern(ahead + one), 0);
            Bench.same("151 with " + one, b.pattern(ahead + "a" + one), -1);
            Bench.same("150 with a switch", b.pattern(ahead + one + "(?i)"), 1);
            Bench.same("150 with " + one + " in a part", b.pattern("(?&z)"), -1);
        }
        Bench twice = new Bench();
        Bench.same("a part of 74", twice.part('a', times("a", 74)), 74);
        Bench.same("a part of 75", twice.part('b', times("a", 75)), 75);
        Bench.same("75 twice", twice.pattern("(?&a)(?&a)"), 0);
        Bench.same("75 and 76", twice.pattern("(?&a)(?&b)"), -1);
        Bench.same("75 twice and one", twice.pattern("(?&a)(?&a)c"), -1);
    }

    private static void countedNodes() {
        Sentence.says("Nodes are atoms (besides what they have in them; a switch without a pattern is none), repeats, and signs \"|\", those of conditions, too; what is included by a part counts, each time, and the inclusion as an atom, too.");
        Ask.isNodes("", 0);
        Ask.isNodes("a", 1);
        Ask.isNodes("|", 1);
        Ask.isNodes("||", 2);
        Ask.isNodes("(?i)", 0);
        Ask.isNodes("(?i)(?-i)a(?s)", 1);
        Ask.isNodes("(?i:)", 1);
        Ask.isNodes("(?i:a)", 2);
        Ask.isNodes("()", 1);
        Ask.isNodes("(a)", 2);
        Ask.isNodes("(a|b)", 4);
        Ask.isNodes("((a))", 3);
        Ask.isNodes("a*", 2);
        Ask.isNodes("a{2,3}?", 2);
        Ask.isNodes("a++", 2);
        Ask.isNodes("(a|b)*+", 5);
        Ask.isNodes("[a-c&&[^b]]", 1);
        Ask.isNodes("()(?(1))", 2);
        Ask.isNodes("()(?(1)a)", 3);
        Ask.isNodes("()(?(1)a|b)", 5);
        Ask.isNodes("()(?(1)|)", 3);
        Ask.isNodes("(*F)(*C)(*S)", 3);
        Ask.isNodes("(?0)\\b\\n.^$", 6);
        Bench b = new Bench();
        Bench.same("a|b", b.part('a', "a|b"), 3);
        Bench.same("nothing", b.part('e', ""), 0);
        Bench.same("once", b.part('b', "(?&a)"), 4);
        Bench.same("twice", b.part('c', "(?&a)(?&a)"), 8);
        Bench.same("by way of another", b.part('d', "(?&b)(?&c)x"), 15);
        Bench.same("nothing is included", b.part('f', "(?&e)(?&e)"), 2);
        Bench.same("repeated", b.part('g', "(?&a){20}"), 5);
    }

    private static void keptParts() {
        Sentence.says("A part is a text that is a pattern, kept under a lower letter;");
        Bench b = new Bench();
        Bench.same("none", b.part('a', "("), -1);
        Bench.same("none is kept", b.pattern("(?&a)"), -1);
        for (char letter : new char[] {'a', 'z'}) {
            Bench.same("one", b.part(letter, "x" + letter), 2);
            Bench.same("another one in its place", b.part(letter, "y"), 1);
            Bench.same("none", b.part(letter, "*"), -1);
            int number = b.pattern("(?&" + letter + ")");
            Bench.same("the one ahead is still kept", b.x.literal(number, 0), 'y');
            Bench.same("and that alone", b.x.least(number), 1);
        }
        for (int wrong : new int[] {'a' - 1, 'z' + 1, 'A', 0, -1, 'a' + 256, Integer.MAX_VALUE, Integer.MIN_VALUE}) {
            b.draft("x");
            Bench.fails("part " + wrong, ARGUMENT, () -> b.x.part(wrong));
            Bench.same("the draft", b.x.clear(), 1);
        }
    }

    private static void rings() {
        Sentence.says("a part can include others, but no ring: a text that would include itself, by way of whatever parts, is no pattern.");
        Bench b = new Bench();
        Bench.same("itself, ahead of it", b.part('a', "(?&a)"), -1);
        Bench.same("a", b.part('a', "x"), 1);
        Bench.same("itself", b.part('a', "(?&a)"), -1);
        Bench.same("itself in a group", b.part('a', "y|(z(?&a))"), -1);
        Bench.same("b", b.part('b', "(?&a)"), 2);
        Bench.same("by way of one", b.part('a', "(?&b)"), -1);
        // All 26 in a chain, each with the one ahead of it.
        for (char c = 'b'; c <= 'z'; c++) {
            Bench.same("a chain up to " + c, b.part(c, "(?&" + (char) (c - 1) + ")"), c - 'a' + 1);
        }
        Bench.same("by way of all", b.part('a', "(?&z)"), -1);
        Bench.same("from the middle", b.part('m', "a(?&z)"), -1);
        int number = b.pattern("(?&z)(?&z)");
        Bench.same("a pattern can include them", number, 0);
        Bench.same("and has what is at their end", b.x.literal(number, 1), 'x');
        // What is no ring any more can be kept.
        Bench.same("m", b.part('m', "y"), 1);
        Bench.same("no way leads back now", b.part('a', "(?&l)"), -1);
        Bench.same("z has m alone", b.part('a', "(?&z)"), 15);
        Bench.same("the chain up to l goes by a, z and m", b.part('k', "(?&l)"), -1);
        Bench.same("m would go by a", b.part('m', "(?&l)"), -1);
    }
}
