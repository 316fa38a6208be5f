/** The promises in their order: ordinary inputs, the edges that the document names, and wrong inputs. */
public final class PromiseTest {
    private static final Class<IndexOutOfBoundsException> INDEX = IndexOutOfBoundsException.class;
    private static final Class<IllegalArgumentException> ARGUMENT = IllegalArgumentException.class;
    private static final Class<IllegalStateException> STATE = IllegalStateException.class;
    private static final int[] WRONG = {-1, 3, Integer.MIN_VALUE, Integer.MAX_VALUE};

    public static void main(String[] args) {
        newObject();
        type();
        clear();
        part();
        patternBorders();
        patternTexts();
        classTexts();
        templateTexts();
        groups();
        least();
        begins();
        literal();
        runaway();
        find();
        meaning();
        verbs();
        calls();
        depths();
        engines();
        steps();
        back();
        matches();
        fillAndSize();
        replace();
        marks();
        openAndShut();
        undoAndRedo();
        macros();
        streams();
        order();
        Bench.end();
    }

    private static String times(String text, int times) {
        StringBuilder made = new StringBuilder();
        for (int i = 0; i < times; i++) {
            made.append(text);
        }
        return made.toString();
    }

    /** What a pattern finds in a text. */
    private static int found(String pattern, String text) {
        Bench b = new Bench();
        int number = b.pattern(pattern);
        b.fill(0, text);
        return b.x.find(number, 0, 0, 0);
    }

    private static void finds(String pattern, String text, int due) {
        Bench.same("'" + pattern + "' in '" + text + "'", found(pattern, text), due);
    }

    private static void takes(String pattern, String text, int due) {
        Bench b = new Bench();
        int number = b.pattern(pattern);
        b.fill(0, text);
        Bench.same("steps of '" + pattern + "' in '" + text + "'", b.x.steps(number, 0, 0), due);
    }

    private static void isPattern(String text, boolean due) {
        Bench b = new Bench();
        int answered = b.pattern(text);
        Bench.same("'" + text + "' is a pattern", answered, due ? 0 : -1);
        Bench.same("'" + text + "' leaves the draft", b.x.clear(), due ? 0 : text.length());
    }

    private static void newObject() {
        Bench b = new Bench();
        Bench.same("clear", b.x.clear(), 0);
        for (int i = 0; i < 3; i++) {
            Bench.same("size", b.x.size(i), 0);
        }
        Bench.fails("groups", INDEX, () -> b.x.groups(0));
        Bench.fails("place", INDEX, () -> b.x.place(0));
        Bench.fails("told", INDEX, () -> b.x.told(0));
        Bench.fails("undo", STATE, () -> b.x.undo());
        Bench.fails("redo", STATE, () -> b.x.redo());
        Bench.fails("shut", STATE, () -> b.x.shut());
        Bench.same("NONE", MendBench.NONE, -1);
        Bench.same("TOO_FAR", MendBench.TOO_FAR, -2);
        Bench.same("UNSET", MendBench.UNSET, -3);
        Bench.same("NOT_TAKEN", MendBench.NOT_TAKEN, -4);
        Bench.same("NOT_YET", MendBench.NOT_YET, -5);
    }

    private static void type() {
        Bench b = new Bench();
        Bench.same("type", b.x.type('a'), 1);
        Bench.same("type", b.x.type(Bench.four("b\n ~")), 5);
        int[] none = {0, 127, 31, 9, 11, 128, 'a' << 8, 'a' << 24, 'a' | 'a' << 16, 'a' | 127 << 8, -1, Integer.MIN_VALUE, 'a' | 255 << 24};
        for (int four : none) {
            Bench.fails("type " + four, ARGUMENT, () -> b.x.type(four));
        }
        Bench.same("draft", b.x.clear(), 5);
        b.typed(times("abcd", 29)).typed("ab");
        Bench.fails("type", STATE, () -> b.x.type(Bench.four("abc")));
        Bench.fails("type", ARGUMENT, () -> b.x.type(0));
        Bench.same("type", b.x.type(Bench.four("ab")), 120);
        Bench.fails("type", STATE, () -> b.x.type('a'));
        Bench.fails("type", ARGUMENT, () -> b.x.type(127));
        Bench.same("draft", b.x.clear(), 120);
    }

    private static void clear() {
        Bench b = new Bench();
        b.typed("abc");
        Bench.same("clear", b.x.clear(), 3);
        Bench.same("clear", b.x.clear(), 0);
    }

    private static void part() {
        Bench b = new Bench();
        Bench.fails("part", ARGUMENT, () -> b.x.part(96));
        Bench.fails("part", ARGUMENT, () -> b.x.part(123));
        Bench.fails("part", ARGUMENT, () -> b.x.part('A'));
        Bench.same("an empty part", b.part('e', ""), 0);
        Bench.same("nodes", b.part('a', "(a|b)*?[c[d]](?i)\\d"), 7);
        Bench.same("nodes of a condition", b.part('c', "(x)(?(1)a|b)(*F)"), 7);
        Bench.same("nodes with a part", b.part('b', "(?&a)(?&a)(?&e)"), 17);
        Bench.same("no part", b.part('d', "(?&z)"), -1);
        Bench.same("draft", b.x.clear(), 5);
        Bench.same("a ring", b.part('a', "(?&b)"), -1);
        Bench.same("a ring of one", b.part('a', "(?&a)"), -1);
        Bench.same("no pattern", b.part('a', "("), -1);
        Bench.same("the part is as it was", b.part('f', "(?&a)"), 8);
        int before = b.pattern("x(?&e)y");
        Bench.same("an empty part", b.part('e', "z"), 1);
        int after = b.pattern("x(?&e)y");
        Bench.same("a pattern stays", b.x.least(before), 2);
        Bench.same("a new pattern", b.x.least(after), 3);
        Bench.same("groups may be too many", b.part('g', "()()()()()"), 5);
        Bench.same("groups may be too many", b.part('h', "(?&g)(?&g)"), -1);
        Bench.same("names may be alike", b.part('n', "(?<n>a)"), 2);
        Bench.same("names may be alike", b.part('m', "(?&n)(?&n)"), -1);
        Bench.same("groups that are told have to be there", b.part('t', "\\1"), -1);
        // switches go into a part, and not out of it
        Bench p = new Bench();
        p.part('p', "a(?-i)b");
        int number = p.pattern("(?i)(?&p)c");
        p.fill(0, "AbC");
        Bench.same("a part with switches", p.x.find(number, 0, 0, 0), 3);
        p.fill(0, "ABC");
        Bench.same("a part with switches", p.x.find(number, 0, 0, 0), -1);
        // a part is one atom
        p.part('p', "a|b");
        number = p.pattern("^(?&p){2}$");
        p.fill(0, "ba");
        Bench.same("a part that is repeated", p.x.find(number, 0, 0, 0), 2);
        // groups in parts are groups of the pattern
        p.part('p', "(a)\\1");
        number = p.pattern("(.)(?&p)\\2");
        p.fill(0, "xaaa");
        Bench.same("a part's own \\1 is the pattern's", p.x.find(number, 0, 0, 0), -1);
        p.fill(0, "aaaa");
        Bench.same("a part's group", p.x.find(number, 0, 0, 2), 1002);
    }

    private static void patternBorders() {
        Bench b = new Bench();
        for (int i = 0; i < 12; i++) {
            Bench.same("pattern", b.pattern("a"), i);
        }
        b.draft("(");
        Bench.fails("pattern", STATE, () -> b.x.pattern());
        Bench.same("draft", b.x.clear(), 1);
        isPattern(times("a", 120), true);
        Bench parts = new Bench();
        Bench.same("nodes", parts.part('a', times("a", 100)), 100);
        Bench.same("150 nodes", parts.pattern("(?&a)" + times("b", 49)), 0);
        Bench.same("151 nodes", parts.pattern("(?&a)" + times("b", 50)), -1);
        Bench.same("151 nodes", parts.pattern("(?&a)" + times("b", 48) + "|a"), -1);
        Bench.same("150 nodes", parts.pattern("(?&a)" + times("b", 47) + "a?"), 1);
        Bench.same("201 nodes", parts.part('b', "(?&a)(?&a)"), -1);
        String[] lasts = {"(?i:)", "()", "(?:)", "(?>)", "(?=)", "(?(1))", "(?0)", "(*F)", "[a]", "\\b", "^", "(?&e)", "(?i).", "|"};
        Bench.same("an empty part", parts.part('e', ""), 0);
        for (String last : lasts) {
            Bench.same("150 nodes", parts.part('c', "()(?&a)" + times("b", 47) + last), 150);
            Bench.same("151 nodes", parts.part('c', "()(?&a)" + times("b", 48) + last), -1);
        }
    }

    private static void patternTexts() {
        String[] are = {
            "", "|", "a|", "||", "()", "(|)", "a?", "a??", "a?+", "a{0}", "a{20}", "a{20,}", "a{0,20}?", "a{1,1}+", "a{02}", "}", "]", "a}",
            "-", "&", "^*", "$+", "\\b?", "(?=a)*", "(?:a)*", "\\.", "\\_", "\\-", "\\~", "\\!", "(?i)", "(?ii)", "(?ism-ism)", "(?-i)", "(?i:a)*",
            "(?-m:a)", "(?i-s:)", "(a)\\1", "\\1(a)", "\\k<x>(?<x>a)", "(?(1)a)(b)", "(?(1)|)(b)", "(?(9)a)()()()()()()()()()", "(?0)", "(?1)()",
            "(*F)", "(*C)", "(*S)", "(?<x>)(?<y>)", "(?<=a)", "(?<!a)", "(?!)", "(?>)", "(?(1)a)*()", "(?1)*()", "\n", "a\n|\n", "<", "(?(1)(?:a|b|c))()",
            "a|(?i)b|c", "a(?i)", "(?i)a*",
        };
        String[] aren = {
            "(", ")", "a)", "(a", "(?", "(?)", "(?a)", "(*", "(*A)", "(*F", "*", "?", "+", "{", "{1}", "a{", "a{}", "a{,2}", "a{1", "a{1,", "a{1,2",
            "a{21}", "a{1,21}", "a{2,1}", "a{001}", "a{1,001}", "a{-1}", "a{1 }", "a**", "a*{2}", "a{2}{2}", "a?+?", "a*?+", "(?i)*", "a(?i)*", "(*F)*",
            "(*C)?", "a|*", "(*)", "(?:*)", "(?(1)*)()", "\\", "\\a", "\\0", "\\c", "\\9", "\\ ", "\\\n", "\\e", "\\Z", "\\z\\1", "\\k", "\\k<", "\\k<x",
            "\\k<x>", "\\k<A>(?<A>)", "\\k<A>(?<a>)", "\\k<ab(?<a>)", "\\k<ab>(?<a>)", "\\k(a>(?<a>)", "(?<x>)(?<x>)", "(?<A>)", "(?<1>)", "(?<xy>)", "(?<x)", "()()()()()()()()()()", "(?(0)a)", "(?(1)a)", "(?(1)a|b|c)()",
            "(?(10)a)()", "(?(x)a)(?<x>)", "(?(1a)()", "(?10)()", "(?2)()", "(?-)", "(?i-)", "(?--i)", "(?i-s-m)", "(?x)", "(?i", "(?i:", "(?i:a", "(?&p)",
            "(?&A)", "(?&p", "(?#)", "(?<", "(?<=a", "(?>a", "[", "[]", "[^]", "[a", "a{2}}{", "(?P<x>)", "(?(?=a)b)",
        };
        for (String text : are) {
            isPattern(text, true);
        }
        for (String text : aren) {
            isPattern(text, false);
        }
    }

    private static void classTexts() {
        String[] are = {
            "[a]", "[^a]", "[^^]", "[a^]", "[a-z]", "[a-a]", "[\\]]", "[\\-]", "[\\n-a]", "[!-&]", "[&]", "[a&b]", "[a&&b]", "[a--b]", "[a&&b--c&&d]",
            "[[a]]", "[^[^a]]", "[a[b]c]", "[\\d\\w]", "[\\D--\\s]", "[a&&&b]", "[|(){}?*+.$]", "[\n]", "[ -~]", "[&-a]", "[a\\&\\&b]", "[\\&-\\-]",
            "[[[[a]]]]",
        };
        String[] aren = {
            "[]a]", "[a-]", "[-a]", "[a-b-c]", "[b-a]", "[\\d-z]", "[a-\\d]", "[a-[b]]", "[&&a]", "[a&&]", "[a&&&&b]", "[a--]", "[--a]", "[a---b]",
            "[!-&&a]", "[\\b]", "[\\a]", "[\\1]", "[\\ ]", "[\\", "[a\\", "[[a]", "[a]]*[", "[\\A]", "[^", "[a-", "[\\z]",
        };
        for (String text : are) {
            isPattern(text, true);
        }
        for (String text : aren) {
            isPattern(text, false);
        }
        classHas("@", "?@A", "@");
        classHas("[?-A]", ">?@AB", "?@A");
        classHas("[^@]", "?@A`", "?A`");
        classHas("(?i)[@-\\[]", "@A[`a{z", "@A[az");
        classHas("(?i)@", "@`", "@");
        String signs = " !#&-0aAbBzZ_~\n";
        classHas("[a-c&&[^b]]", signs, "a");
        classHas("[\\w--[a-z]--\\d]", signs, "ABZ_");
        classHas("[^\\w\\s]", signs, "!#&-~");
        classHas("[a&&b]", signs, "");
        classHas("[!-&&&a]", signs, null);
        classHas("[A-z&&[^a-b]]", signs, "ABzZ_");
        classHas("[a--ab&&z]", signs, "");
        classHas("[\\n-\\-]", signs, " !#&-\n");
        classHas("(?i)[a-b]", signs, "aAbB");
        classHas("(?i)[^a-b]", signs, " !#&-0zZ_~\n");
        classHas("(?i)[a-z--B]", signs, "aAzZ");
        classHas("\\W", signs, " !#&-~\n");
        classHas("\\S", signs, "!#&-0aAbBzZ_~");
        classHas("\\D", signs, " !#&-aAbBzZ_~\n");
        classHas(".", signs, " !#&-0aAbBzZ_~");
        classHas("(?s).", signs, signs);
        classHas("(?s-s).", signs, " !#&-0aAbBzZ_~");
        classHas("\\n", signs, "\n");
        classHas("(?i)Z", signs, "zZ");
    }

    private static void classHas(String told, String signs, String due) {
        Bench b = new Bench();
        int number = b.pattern(told);
        if (due == null) {
            Bench.same(told, number, -1);
            return;
        }
        b.fill(0, signs);
        for (int i = 0; i < signs.length(); i++) {
            boolean is = b.x.find(number, 0, i, 0) == 1000 * i + i + 1;
            Bench.same(told + " has " + signs.charAt(i), is, due.indexOf(signs.charAt(i)) >= 0);
            Bench.same(told + " begins " + signs.charAt(i), b.x.begins(number, signs.charAt(i)), is);
        }
    }

    private static void templateTexts() {
        String[] are = {
            "", "a", "$0", "$9", "${a}", "\\U\\L\\E\\#\\n", "\\\\", "\\$", "\\?", "\\|", "\\}", "|", "}", "{", "{}|", "?0{}", "?1{a}", "?1{a|b}", "?9{|}",
            "?1{$1|${x}}", "?1{\\}|\\|}", "?1{{|{}", "?1{a}?2{b}|c", "\n", "?1{a|b}}",
        };
        String[] aren = {
            "$", "$a", "${", "${A}", "${1}", "${ab}", "${a", "\\", "\\a", "\\u", "\\1", "\\ ", "\\\n", "?", "?a", "?1", "?1a", "?1{", "?1{a", "?1{a|b|c}",
            "?1{?2{a}}", "?1{a|?}", "??", "?{a}", "?12{a}", "?1{$}", "?1{a|\\}", "?1{${a|b}",
        };
        for (String text : are) {
            Bench b = new Bench();
            Bench.same("template " + text, b.template(text), 0);
            Bench.same("draft", b.x.clear(), 0);
        }
        for (String text : aren) {
            Bench b = new Bench();
            Bench.same("template " + text, b.template(text), -1);
            Bench.same("draft", b.x.clear(), text.length());
        }
        Bench b = new Bench();
        for (int i = 0; i < 8; i++) {
            Bench.same("template", b.template("a"), i);
        }
        b.draft("?");
        Bench.fails("template", STATE, () -> b.x.template());
        Bench.same("draft", b.x.clear(), 1);
    }

    private static void groups() {
        told("groups", "", 3);
        told("groups", "a", 3);
        told("groups", "^a", 1);
        told("groups", "(a)(?:b)(?<x>c)", 23);
        told("groups", "(?<=(a))", 10);
        told("groups", "(?i:a|b)+?", 3);
        told("groups", "(a*)*", 10);
        told("groups", "(?:a?){2,}", 0);
        told("groups", "(?:a?){2}", 3);
        told("groups", "(?:\\b)+", 0);
        told("groups", "\\b?", 1);
        told("groups", "a++", 0);
        told("groups", "(?>a)", 0);
        told("groups", "(a)\\1", 10);
        told("groups", "(a)(?1)", 10);
        told("groups", "(a)(?(1)b)", 10);
        told("groups", "a(*F)", 0);
        told("groups", "(?=a)", 0);
        told("groups", "(?:(?:(?:a?)*){0}", -1);
        told("groups", "(?:(?:a?)*){0}", 0);
        told("groups", "(?:a{20}){4}", 3);
        // the size: (9 * 2 + 1 + 1) * 10 is 200
        told("groups", "(?:a{9}b){10}", 3);
        told("groups", "(?:a{9}b){10}d", 0);
        told("groups", "(?:a{19})+", 3);
        told("groups", "(?:a{9}b){8}c{17,}" + times("d", 20), 3);
        told("groups", "(?:a{9}b){8}c{17,}" + times("d", 21), 0);
        told("groups", "(?:a{9}b){8}c+" + times("d", 36), 3);
        told("groups", "(?:a{9}b){8}c+" + times("d", 37), 0);
        told("groups", "(?:a{9}b){8}c*" + times("d", 37), 3);
        told("groups", "(?:a{9}b){8}c*" + times("d", 38), 0);
        told("groups", times("a", 100) + "b{20}c{20}d{10}", 3);
        told("groups", times("a", 101) + "b{20}c{20}d{10}", 0);
        told("groups", times("a", 100) + "b{20}c{20}(?:){20}", 3);
        told("groups", times("a", 100) + "b{20}c{20}(?:){20}d", 0);
        told("groups", times("a", 96) + "b{20}c{20}(?:){20}(d)|", 10);
        told("groups", times("a", 95) + "b{20}c{20}(?:){20}(d)|", 13);
        told("groups", "(?:(?:(?:a{20}){20}){20}){0}b", 3);
        Bench.fails("groups", INDEX, () -> new Bench().x.groups(0));
    }

    private static int ask(Bench b, String fact, int number) {
        return fact.equals("groups") ? b.x.groups(number) : fact.equals("least") ? b.x.least(number) : b.x.runaway(number);
    }

    private static void told(String fact, String pattern, int due) {
        Bench b = new Bench();
        int number = b.pattern(pattern);
        Bench.same(fact + " of " + pattern, number < 0 ? -1 : ask(b, fact, number), due);
        for (int wrong : new int[] {-1, 1, 12, Integer.MIN_VALUE, Integer.MAX_VALUE}) {
            if (number == 0) {
                Bench.fails(fact, INDEX, () -> ask(b, fact, wrong));
            }
        }
    }

    private static void least() {
        told("least", "", 0);
        told("least", "abc", 3);
        told("least", "a|bc", 1);
        told("least", "a{3,5}b?", 3);
        told("least", "(?:ab){2,}", 4);
        told("least", "(?=abc)", 0);
        told("least", "(?>ab)c++", 3);
        told("least", "(ab)\\1", 2);
        told("least", "(ab)(?1)", 2);
        told("least", "(ab)(?(1)ab|c)", 3);
        told("least", "(ab)(?(1)ab)", 2);
        told("least", "^a$\\b(*C)", 1);
        told("least", "(?:(?:(?:(?:a{20}){20}){20}){20}){6}", 960000);
        told("least", "(?:(?:(?:(?:a{20}){20}){20}){20}){7}", 1000000);
        told("least", "(?:(?:(?:(?:(?:(?:(?:a{20}){20}){20}){20}){20}){20}){20}){20}", 1000000);
        told("least", "(?:(?:(?:(?:a{20}){20}){20}){20}){20}|b", 1);
    }

    private static void begins() {
        beginsWith("ab", "a");
        beginsWith("a?b", "ab");
        beginsWith("(?=a)b", "b");
        beginsWith("a|b", "ab");
        beginsWith("a{0}b", "b");
        beginsWith("a{0,2}+b", "ab");
        beginsWith("(a)?\\1b", "ab1\n");
        beginsWith("(a)(?1)", "a");
        beginsWith("(?(1)a|b)(c)", "ab");
        beginsWith("(?(1)a)(c)", "ac");
        beginsWith("", "ab1\n");
        beginsWith("(*F)", "ab1\n");
        beginsWith("(*F)a", "a");
        beginsWith("^a", "a");
        beginsWith("[a&&b]c", "");
        Bench b = new Bench();
        b.pattern("a");
        for (int code : new int[] {9, 11, 31, 127, -1, 0, 128, Integer.MAX_VALUE, Integer.MIN_VALUE}) {
            Bench.fails("begins", ARGUMENT, () -> b.x.begins(0, code) ? 1 : 0);
            Bench.fails("begins", INDEX, () -> b.x.begins(1, code) ? 1 : 0);
        }
        Bench.same("begins", b.x.begins(0, 10), false);
        Bench.same("begins", b.x.begins(0, 126), false);
    }

    private static void beginsWith(String pattern, String due) {
        Bench b = new Bench();
        int number = b.pattern(pattern);
        for (char c : "abc1\n".toCharArray()) {
            boolean is = due.indexOf(c) >= 0 || due.equals("ab1\n");
            Bench.same(pattern + " begins " + c, b.x.begins(number, c), is);
        }
    }

    private static void literal() {
        literalIs("abc", "abc");
        literalIs("ab.cde", "cde");
        literalIs("ab.cd", "ab");
        literalIs("a(b)c", "abc");
        literalIs("a(b|x)c", "a");
        literalIs("a(?:b(?>c(?i:1)))d", "abc1d");
        literalIs("(?i)ab12", "12");
        literalIs("ab?c", "a");
        literalIs("ab{1}cd", "cd");
        literalIs("a()b", "ab");
        literalIs("a(?s)b", "ab");
        literalIs("a^b", "a");
        literalIs("a(?=b)b", "a");
        literalIs("[a][b&&\\w]\\n", "ab\n");
        literalIs("a|b", "");
        literalIs("(a|b)", "");
        literalIs("(?>ab++)c", "a");
        literalIs("", "");
        Bench b = new Bench();
        b.part('p', "b(c)");
        int number = b.pattern("a(?&p)d");
        Bench.same("literal", b.x.literal(number, 3), 'd');
        Bench.same("literal", b.x.literal(number, 4), -1);
        Bench.same("literal", b.x.literal(number, Integer.MAX_VALUE), -1);
        Bench.fails("literal", ARGUMENT, () -> b.x.literal(number, -1));
        Bench.fails("literal", INDEX, () -> b.x.literal(1, -1));
    }

    private static void literalIs(String pattern, String due) {
        Bench b = new Bench();
        int number = b.pattern(pattern);
        for (int i = 0; i <= due.length(); i++) {
            Bench.same("literal of " + pattern + " at " + i, b.x.literal(number, i), i < due.length() ? due.charAt(i) : -1);
        }
    }

    private static void runaway() {
        told("runaway", "(?:a+)+", 'a');
        told("runaway", "(a*)*", 'a');
        told("runaway", "(?:a+?)*?", 'a');
        told("runaway", "(?:a+)+?b", 'a');
        told("runaway", "(?:a+b?)+", 'a');
        told("runaway", "(?:a+b)+", -1);
        told("runaway", "(?:ba+)+", -1);
        told("runaway", "(?:a++)+", -1);
        told("runaway", "(?:a+)++", -1);
        told("runaway", "(?>(?:a+)+)", -1);
        told("runaway", "(?=(?:a+)+)", -1);
        told("runaway", "(?:(?>a+))+", -1);
        told("runaway", "(?:a{2,})+", -1);
        told("runaway", "(?:(?:a?){2,})+", 'a');
        told("runaway", "(?:(?:a+){0,3})+", 'a');
        told("runaway", "(?:(?:a+){2})+", -1);
        told("runaway", "(?:(?:a*){2})+", 'a');
        told("runaway", "(?:(?:a+){0})+", -1);
        told("runaway", "(?:a+|b)*", 'a');
        told("runaway", "(?:\\w+\\s?)*", '0');
        told("runaway", "(?:[^a]+)+", 10);
        told("runaway", "(?:(?:ab?)+)+", 'a');
        told("runaway", "(?:(?:a\\b)+)+", 'a');
        told("runaway", "(x)(?:(?:\\1a)+)+", 'a');
        told("runaway", "(x)(?:(?:\\1)+)+", -1);
        told("runaway", "(x)(?:(?(1)a+|b+))+", 'a');
        told("runaway", "a+b+", -1);
        told("runaway", "", -1);
    }

    private static void find() {
        Bench b = new Bench();
        int number = b.pattern("(a)(b)?");
        b.fill(0, "xab a");
        Bench.same("find", b.x.find(number, 0, 0, 0), 1003);
        Bench.same("find", b.x.find(number, 0, 0, 2), 2003);
        Bench.same("find", b.x.find(number, 0, 2, 0), 4005);
        Bench.same("find", b.x.find(number, 0, 2, 2), -3);
        Bench.same("find", b.x.find(number, 0, 5, 0), -1);
        Bench.same("find", b.x.find(number, 0, 5, 2), -1);
        Bench.same("find", b.x.find(number, 1, 0, 1), -1);
        for (int wrong : WRONG) {
            Bench.fails("find", INDEX, () -> b.x.find(wrong, 0, 0, 0));
            Bench.fails("find", INDEX, () -> b.x.find(number, wrong, 0, 0));
            Bench.fails("find", INDEX, () -> b.x.find(number, 0, wrong == 3 ? 6 : wrong, 0));
            Bench.fails("find", INDEX, () -> b.x.find(number, 0, 0, wrong));
            Bench.fails("anew", INDEX, () -> b.x.anew(wrong, 0, 0, 0));
            Bench.fails("anew", INDEX, () -> b.x.anew(number, wrong, 0, 0));
            Bench.fails("anew", INDEX, () -> b.x.anew(number, 0, wrong == 3 ? 6 : wrong, 0));
            Bench.fails("anew", INDEX, () -> b.x.anew(number, 0, 0, wrong));
        }
        Bench.same("anew", b.x.anew(number, 0, 0, 0), 1003);
        Bench.same("anew", b.x.anew(number, 0, 2, 2), -3);
        Bench.same("anew", b.x.anew(number, 0, 5, 2), -1);
        int far = b.pattern("(?:a+)+c");
        b.fill(2, times("a", 20));
        Bench.same("find", b.x.find(far, 2, 0, 0), -2);
        Bench.same("anew", b.x.anew(far, 2, 0, 0), -2);
    }

    private static void meaning() {
        finds("a|ab", "ab", 1);
        finds("a??b", "ab", 2);
        finds("a*?", "aa", 0);
        finds("a{2,3}", "aaaa", 3);
        finds("a{2,3}?", "aaaa", 2);
        finds("(?>a|ab)c", "abc", -1);
        finds("a++a", "aaa", -1);
        finds("a?+a", "a", -1);
        finds("(?=(a))\\1b", "ab", 2);
        finds("(?!a)b", "ab", 1002);
        finds("(?!(a))(?(1)x|b)", "ab", 1002);
        finds("(?<=a|bc)d", "bcd", 2003);
        finds("(?<=a.*)d", "abcd", 3004);
        finds("(?<!a)b", "abb", 2003);
        finds("(?<!^)a", "aa", 1002);
        finds("(?i)(a)\\1", "aA", 2);
        finds("(a)\\1", "aA", -1);
        finds("(?i)(a)(?-i)\\1", "aA", -1);
        finds("()\\1a", "a", 1);
        finds("\\1()a", "a", -1);
        finds("(?:a|())+b", "aab", 3);
        finds("(?:a?){3}b", "b", 1);
        finds("(?:|a)+b", "aab", 3);
        finds("(?:()|a){2}b", "b", 1);
        finds("^a", "ba", -1);
        finds("(?m)^a", "b\na", 2003);
        finds("a$", "a\nb", -1);
        finds("(?m)a$", "a\nb", 1);
        finds("(?m)\\Ab", "a\nb", -1);
        finds("(?m)a\\z", "a\na", 2003);
        finds("(?m)$", "\n", 0);
        finds("\\ba\\b", "aa a", 3004);
        finds("\\Ba", "aa", 1002);
        finds("\\B", "a", -1);
        finds("\\B", "", 0);
        finds("\\b", " ", -1);
        for (char word : "09azAZ_".toCharArray()) {
            finds("\\b", " " + word, 1001);
            finds("\\B", "" + word, -1);
        }
        for (char other : "/:@[`{^~\n".toCharArray()) {
            finds("\\b", " " + other, -1);
        }
        finds("(?i:a)b", "Ab", 2);
        finds("(?i:a)b", "AB", -1);
        finds("(?:a(?i)b|c)d", "Cd", 2);
        finds("(?:a(?i)b|c)d", "CD", -1);
        finds("(a)?(?(1)b|c)", "ab", 2);
        finds("(a)?(?(1)b|c)", "c", 1);
        finds("(a)?(?(1)b)", "", 0);
        finds("(a)|(?(1)x|b)", "b", 1);
        finds("(?(1)(?i)x|b)()", "B", 1);
        finds("a{0}b", "ab", 1002);
        finds("[a&&b]", "ab", -1);
        // of a group the last round stays, and a round that sets nothing leaves it
        Bench b = new Bench();
        int number = b.pattern("(?:(a)|(b))+");
        b.fill(0, "ab");
        Bench.same("group 1", b.x.find(number, 0, 0, 1), 1);
        Bench.same("group 2", b.x.find(number, 0, 0, 2), 1002);
        // a group has the text of the round before while it is gone through
        finds("(?:(a|b\\1))+c", "abac", 4);
        finds("(a\\1)", "aa", -1);
    }

    private static void verbs() {
        finds("(*F)|a", "a", 1);
        finds("a(*C)b|a", "a", -1);
        finds("a(*C)b|.", "ca", 1);
        finds("a(*S)b|a", "aa", -1);
        finds("aa(*S)b|aa", "aaa", -1);
        finds("(*S)ab|b", "ab", 2);
        finds("(*S)b|a", "ab", 1002);
        finds("a(*S)a(*S)b|.", "aac", 2003);
        finds("(?=a(*C)b|a)a", "a", -1);
        finds("(?:(?=a(*C)b)|a)", "a", 1);
        finds("(?!a(*C)b|a)a", "a", 1);
        finds("(?>a(*C)b|a)|a", "a", 1);
        finds("(?:a(*C)b|a)++|a", "a", 1);
        finds("(?>a(*C))b|a", "ac", 1);
        finds("(?<=(*C)a)b|b", "cb", 1002);
        // a verb leaves a look behind for all places
        finds("(?<=b|(*C)x|ab)c", "abc", -1);
        finds("(?<!(*C)x|ab)c", "abc", 2003);
        finds("(a(*C)b|a)|x", "x", 1);
        finds("x|(?1)(a(*C)b){0}|a", "a", -1);
        Bench b = new Bench();
        int number = b.pattern("a(*S)b|.");
        b.fill(0, "aac");
        Bench.same("back", b.x.back(number, 0, 1), -1);
        Bench.same("back", b.x.back(number, 0, 2), 2003);
        int commit = b.pattern("a(*C)b|c");
        Bench.same("back", b.x.back(commit, 0, 1), -1);
        Bench.same("a start ahead", b.x.find(number, 0, 0, 0), 2003);
    }

    private static void calls() {
        finds("\\((?:[^()]|(?0))*\\)", "a(b(c)d)", 1008);
        finds("(a|b(?1)c)", "bbacc", 5);
        Bench b = new Bench();
        int number = b.pattern("(a)(?1)(b)?");
        b.fill(0, "aab");
        Bench.same("a call gives nothing", b.x.find(number, 0, 0, 1), 1);
        int inner = b.pattern("(?:(?2)(x(.)y))|(z)");
        b.fill(1, "axby");
        Bench.same("groups are as ahead of a call", b.x.find(inner, 1, 0, 2), 2003);
        int seen = b.pattern("(.)((?1)\\1)");
        b.fill(2, "aba");
        Bench.same("behind a call the group is as ahead", b.x.find(seen, 2, 0, 0), 3);
        finds("(a)(b)()()()()()()(c)(?9)\\9", "abccc", 5);
        finds("(a)(b)()()()()()()(c)(?9)\\9", "abccb", -1);
        // within 20 calls that are not ended there is no further one
        finds("(?0)|a", "a", 1);
        finds("^(a(?1)?b)$", times("a", 21) + times("b", 21), 42);
        finds("^(a(?1)?b)$", times("a", 22) + times("b", 22), -1);
        finds("(?:(?1)){20}(a)", times("a", 21), 21);
    }

    private static void depths() {
        // parts of "(?=" of 40 levels, and of 41
        for (int levels = 39; levels <= 42; levels++) {
            Bench b = new Bench();
            b.part('a', times("(?=", 20) + "(?&b)" + times(")", 20));
            String inner = "a";
            b.part('b', times("(?=", levels - 20) + inner + times(")", levels - 20));
            b.part('a', times("(?=", 20) + "(?&b)" + times(")", 20));
            int number = b.pattern("(?&a)");
            b.fill(0, "a");
            Bench.same(levels + " looks", b.x.find(number, 0, 0, 0), levels <= 40 ? 0 : -1);
            Bench.same(levels + " looks", b.x.steps(number, 0, 0), levels <= 40 ? levels + 1 : 41 + 41);
            int within = b.pattern("(?>(?&a))");
            Bench.same(levels + " looks in an atomic part", b.x.find(within, 0, 0, 0), levels <= 39 ? 0 : -1);
            int possessive = b.pattern("(?:(?&a)){1}+");
            Bench.same(levels + " looks in a repeat", b.x.find(possessive, 0, 0, 0), levels <= 39 ? 0 : -1);
        }
        // a look for nothing that is too deep has no way either
        Bench b = new Bench();
        b.part('b', times("(?>", 20) + "(?!b)" + times(")", 20));
        b.part('a', times("(?>", 19) + "(?&b)" + times(")", 19));
        b.part('c', times("(?>", 20) + "(?&b)" + times(")", 20));
        int within = b.pattern("(?&a)");
        int beyond = b.pattern("(?&c)");
        Bench.same("39 and a look", b.x.find(within, 0, 0, 0), 0);
        Bench.same("40 and a look", b.x.find(beyond, 0, 0, 0), -1);
    }

    private static void engines() {
        Bench b = new Bench();
        int number = b.pattern("(a|ab)(c|bcd)*");
        int end = b.pattern("a\\b");
        int look = b.pattern("(?=a)");
        int far = b.pattern("(?:a+)+c");
        b.fill(0, "xabcd");
        b.fill(1, times("a", 30));
        for (int engine = 0; engine < 3; engine++) {
            Bench.same("by " + engine, b.x.by(engine, number, 0, 0, 0), 1005);
            Bench.same("by " + engine, b.x.by(engine, number, 0, 2, 0), -1);
        }
        Bench.same("by 1", b.x.by(1, number, 0, 0, 2), 2005);
        Bench.same("by 2", b.x.by(2, number, 0, 0, 1), -4);
        Bench.same("by 2", b.x.by(2, number, 2, 0, 1), -4);
        Bench.same("by 1", b.x.by(1, end, 1, 0, 0), 29030);
        Bench.same("by 2", b.x.by(2, end, 1, 0, 0), -4);
        Bench.same("by 0", b.x.by(0, look, 0, 0, 0), 1001);
        Bench.same("by 1", b.x.by(1, look, 0, 0, 0), -4);
        Bench.same("by 2", b.x.by(2, look, 0, 0, 0), -4);
        Bench.same("by 0", b.x.by(0, far, 1, 0, 0), -2);
        Bench.same("by 1", b.x.by(1, far, 1, 0, 0), -1);
        Bench.same("by 2", b.x.by(2, far, 1, 0, 0), -1);
        for (int engine : new int[] {-1, 3, Integer.MAX_VALUE, Integer.MIN_VALUE}) {
            Bench.fails("by", ARGUMENT, () -> b.x.by(engine, number, 0, 0, 0));
            Bench.fails("by", INDEX, () -> b.x.by(engine, 4, 0, 0, 0));
            Bench.fails("by", INDEX, () -> b.x.by(engine, number, 3, 0, 0));
            Bench.fails("by", INDEX, () -> b.x.by(engine, number, 0, 6, 0));
            Bench.fails("by", INDEX, () -> b.x.by(engine, number, 0, 0, 3));
        }
        // what is repeated no times can be large
        Bench large = new Bench();
        int never = large.pattern("x(?:(?:(?:a{20}|b){20}){20}|(c)){0}y|z");
        large.fill(0, "axy");
        Bench.same("by 1", large.x.by(1, never, 0, 0, 0), 1003);
        Bench.same("by 2", large.x.by(2, never, 0, 0, 0), 1003);
        Bench.same("by 1", large.x.by(1, never, 0, 0, 1), -3);
        // of a repeat that is written out each round has its own place
        Bench r = new Bench();
        int[] patterns = {r.pattern("(?:(a)|b){2,4}?c"), r.pattern("(a{0,3}?)(a{2,})"), r.pattern("(?:(?:a|ab)(?:c|bcd)?){1,3}x?")};
        String[] texts = {"abac", "aaaaa", "abcdac"};
        for (int i = 0; i < 3; i++) {
            r.fill(0, texts[i]);
            for (int g = 0; g <= r.x.groups(patterns[i]) / 10; g++) {
                Bench.same("by 1", r.x.by(1, patterns[i], 0, 0, g), r.x.find(patterns[i], 0, 0, g));
            }
        }
    }

    private static void steps() {
        takes("", "", 0);
        takes("a", "", 1);
        takes("a", "ba", 2);
        takes("a|b", "b", 4);
        takes("(?:a|b)", "b", 4);
        takes("a*", "", 3);
        takes("a{0}", "", 1);
        takes("a{2}", "aa", 5);
        takes("a*?", "a", 1);
        takes("a*+", "", 4);
        takes("(?>a)", "a", 2);
        takes("(?=a)", "a", 2);
        takes("(?<=a)", "a", 6);
        takes("(?<=a)b", "ab", 1 + 1 + 1 + 1 + 1 + 1 + 1);
        takes("()", "", 0);
        takes("^", "", 1);
        takes("\\b|", "", 3);
        takes("()\\1", "", 1);
        takes("(?(1)a|b)()", "b", 2);
        takes("(*C)", "", 1);
        takes("(*F)", "", 1);
        takes("(?1)()", "", 1);
        takes("(a)\\1", "a", 3);
        takes("(a)\\1", "aa", 2);
        // a search of 1000 steps is not too far, one of 1001 is
        takes("(?:){20}", "", 21);
        takes("(?:(?:){20}){20}", "", 1 + 20 + 20 * 21);
        takes("(?:(?:){19}){20}(?:){20}(?:(?:){19}){20}(?:){20}(?:){20}(?:){20}(?:){20}(?:){20}", "", 968);
        takes("(?:(?:){19}){20}(?:){20}(?:(?:){19}){20}(?:){20}(?:){20}(?:){20}(?:){20}(?:){20}(?:){20}(?:){10}", "", 1000);
        takes("(?:(?:){19}){20}(?:){20}(?:(?:){19}){20}(?:){20}(?:){20}(?:){20}(?:){20}(?:){20}(?:){20}(?:){11}", "", -2);
        Bench b = new Bench();
        b.pattern("a");
        for (int wrong : WRONG) {
            Bench.fails("steps", INDEX, () -> b.x.steps(wrong, 0, 0));
            Bench.fails("steps", INDEX, () -> b.x.steps(0, wrong, 0));
            Bench.fails("steps", INDEX, () -> b.x.steps(0, 0, wrong));
        }
    }

    private static void back() {
        Bench b = new Bench();
        int number = b.pattern("a+");
        b.fill(0, "aab");
        Bench.same("back", b.x.back(number, 0, 3), 1002);
        Bench.same("back", b.x.back(number, 0, 0), 2);
        Bench.same("back", b.x.back(number, 1, 0), -1);
        int empty = b.pattern("");
        Bench.same("back", b.x.back(empty, 0, 3), 3003);
        int far = b.pattern("(?:a+)+c");
        b.fill(2, times("a", 20));
        Bench.same("back", b.x.back(far, 2, 20), -2);
        for (int wrong : WRONG) {
            Bench.fails("back", INDEX, () -> b.x.back(wrong, 0, 0));
            Bench.fails("back", INDEX, () -> b.x.back(number, wrong, 0));
            Bench.fails("back", INDEX, () -> b.x.back(number, 1, wrong));
        }
    }

    private static void matches() {
        Bench b = new Bench();
        int star = b.pattern("a*");
        b.fill(0, "aab");
        Bench.same("matches", b.x.matches(star, 0), 3);
        Bench.same("match", b.x.match(star, 0, 0), 2);
        Bench.same("match", b.x.match(star, 0, 1), 2002);
        Bench.same("match", b.x.match(star, 0, 2), 3003);
        Bench.fails("match", INDEX, () -> b.x.match(star, 0, 3));
        Bench.fails("match", INDEX, () -> b.x.match(star, 0, -1));
        Bench.fails("match", INDEX, () -> b.x.match(star, 0, Integer.MAX_VALUE));
        Bench.same("matches", b.x.matches(star, 1), 1);
        Bench.fails("match", INDEX, () -> b.x.match(star, 1, 1));
        int far = b.pattern("ab|(?:a+)+c");
        b.fill(2, "ab" + times("a", 20));
        Bench.same("matches", b.x.matches(far, 2), -2);
        Bench.same("match", b.x.match(far, 2, 0), 2);
        Bench.fails("match", INDEX, () -> b.x.match(far, 2, 1));
        b.fill(1, times("b", 80));
        Bench.same("matches", b.x.matches(star, 1), 81);
        Bench.same("match", b.x.match(star, 1, 80), 80080);
        for (int wrong : WRONG) {
            Bench.fails("matches", INDEX, () -> b.x.matches(wrong, 0));
            Bench.fails("matches", INDEX, () -> b.x.matches(star, wrong));
            Bench.fails("match", INDEX, () -> b.x.match(wrong, 0, 0));
            Bench.fails("match", INDEX, () -> b.x.match(star, wrong, 0));
        }
    }

    private static void fillAndSize() {
        Bench b = new Bench();
        Bench.same("fill", b.fill(0, ""), 0);
        Bench.same("an empty fill is an edit", b.x.undo(), 1);
        Bench.same("fill", b.fill(2, times("ab", 40)), 80);
        Bench.same("draft", b.x.clear(), 0);
        Bench.same("size", b.x.size(2), 80);
        Bench.same("sign", b.x.sign(2, 79), 'b');
        b.draft(times("a", 81));
        Bench.fails("fill", STATE, () -> b.x.fill(0));
        Bench.fails("fill", INDEX, () -> b.x.fill(3));
        Bench.same("draft", b.x.clear(), 81);
        Bench.same("size", b.x.size(0), 0);
        for (int wrong : WRONG) {
            Bench.fails("fill", INDEX, () -> b.x.fill(wrong));
            Bench.fails("size", INDEX, () -> b.x.size(wrong));
            Bench.fails("sign", INDEX, () -> b.x.sign(wrong, 0));
            Bench.fails("sign", INDEX, () -> b.x.sign(2, wrong == 3 ? 80 : wrong));
        }
        Bench.fails("sign", INDEX, () -> b.x.sign(0, 0));
    }

    private static void replaces(String pattern, String template, String in, int most, String due) {
        Bench b = new Bench();
        int p = b.pattern(pattern);
        int t = b.template(template);
        b.fill(1, in);
        b.x.replace(p, t, 1, most);
        Bench.same("replacing " + pattern + " by " + template, b.text(1), due);
    }

    private static void replace() {
        replaces("a", "b", "aaa", 2, "bba");
        replaces("", "-", "ab", 100, "-a-b-");
        replaces("(a)(b)?", "<$2$1$0$3>", "aba", 9, "<baab><aa>");
        replaces("(?<x>a)|b", "[${x}${y}]", "ab", 9, "[a][]");
        replaces("[a-c]", "\\#", "abcabcabcabc", 100, "123456789101112");
        replaces("(\\w+) (\\w+)", "\\U$1x\\E $2y \\L$0Z", "One Two", 9, "ONEX Twoy one twoz");
        replaces("\\w", "\\U$0", "ab", 9, "AB");
        replaces("a(b)?", "?1{yes$1|no}!", "aba", 9, "yesb!no!");
        replaces("a(b)?", "?1{yes}?0{0}?9{x|9}", "aba", 9, "yes0909");
        replaces("a(b)?", "?1{\\Ux|\\Uy}z$0", "aba", 9, "XZABYZA");
        replaces("a", "\\n\\\\\\$\\?{|}", "a", 9, "\n\\$?{|}");
        replaces("b*", "x", "abb", 9, "xaxx");
        replaces("z", "x", "abb", 9, "abb");
        Bench b = new Bench();
        int a = b.pattern("a");
        int far = b.pattern("ab|(?:a+)+c");
        int two = b.template("xy");
        int none = b.template("");
        b.fill(0, times("a", 40));
        Bench.same("replace", b.x.replace(a, two, 0, 100), 40);
        Bench.same("size", b.x.size(0), 80);
        b.fill(0, times("a", 41));
        Bench.fails("replace", STATE, () -> b.x.replace(a, two, 0, 100));
        Bench.same("replace", b.x.replace(a, two, 0, 39), 39);
        Bench.same("size", b.x.size(0), 80);
        b.fill(1, "ab" + times("a", 20));
        Bench.fails("replace", STATE, () -> b.x.replace(far, none, 1, 2));
        Bench.same("size", b.x.size(1), 22);
        Bench.same("replace", b.x.replace(far, none, 1, 1), 1);
        Bench.same("size", b.x.size(1), 20);
        // the last match is edited first, and makes it longer than a buffer on the way
        Bench w = new Bench();
        int split = w.pattern("(b{20}b{20})|a");
        int grow = w.template("?1{|" + times("x", 40) + "}");
        int less = w.template("?1{|" + times("x", 41) + "}");
        w.fill(2, times("b", 40) + times("c", 39) + "a");
        Bench.same("replace", w.x.replace(split, grow, 2, 100), 2);
        Bench.same("text", w.text(2), times("c", 39) + times("x", 40));
        Bench.same("undo", w.x.undo(), 2);
        Bench.same("text", w.text(2), times("b", 40) + times("c", 39) + "a");
        Bench.same("replace", w.x.replace(split, less, 2, 100), 2);
        Bench.same("size", w.x.size(2), 80);
        w.fill(2, times("b", 40) + times("c", 38) + "aa");
        Bench.fails("replace", STATE, () -> w.x.replace(split, grow, 2, 100));
        Bench.same("size", w.x.size(2), 80);
        for (int wrong : WRONG) {
            int other = wrong == 3 ? 9 : wrong;
            Bench.fails("replace", INDEX, () -> b.x.replace(other, two, 0, 0));
            Bench.fails("replace", INDEX, () -> b.x.replace(a, other, 0, 0));
            Bench.fails("replace", INDEX, () -> b.x.replace(a, two, wrong, 0));
        }
        for (int most : new int[] {0, -1, 101, Integer.MAX_VALUE, Integer.MIN_VALUE}) {
            Bench.fails("replace", ARGUMENT, () -> b.x.replace(a, two, 0, most));
            Bench.fails("replace", ARGUMENT, () -> b.x.replace(far, two, 1, most));
        }
        // without a match there is no edit, and what was undone can be redone
        Bench c = new Bench();
        int z = c.pattern("z");
        int t = c.template("y");
        c.fill(0, "a");
        c.x.undo();
        Bench.same("replace", c.x.replace(z, t, 0, 1), 0);
        Bench.same("redo", c.x.redo(), 1);
        Bench.same("groups", c.x.open(), 1);
    }

    private static void marks() {
        Bench b = new Bench();
        b.fill(0, "abcdef");
        int middle = b.pattern("cd");
        int put = b.template("xyz");
        for (int place = 1; place <= 5; place++) {
            Bench.same("mark", b.x.mark(0, place, false), 2 * place - 2);
            Bench.same("mark", b.x.mark(0, place, true), 2 * place - 1);
        }
        b.x.replace(middle, put, 0, 1);
        int[] due = {1, 1, 2, 5, 2, 5, 5, 5, 6, 6};
        for (int i = 0; i < due.length; i++) {
            Bench.same("place " + i, b.x.place(i), due[i]);
        }
        b.x.undo();
        int[] back = {1, 1, 2, 4, 2, 4, 4, 4, 5, 5};
        for (int i = 0; i < back.length; i++) {
            Bench.same("place " + i, b.x.place(i), back[i]);
        }
        Bench.fails("mark", INDEX, () -> b.x.mark(0, 7, true));
        Bench.fails("mark", INDEX, () -> b.x.mark(0, -1, true));
        Bench.fails("mark", INDEX, () -> b.x.mark(3, 0, true));
        Bench.same("mark", b.x.mark(1, 0, false), 10);
        Bench.same("mark", b.x.mark(1, 0, true), 11);
        Bench.fails("mark", STATE, () -> b.x.mark(0, 0, true));
        Bench.fails("mark", INDEX, () -> b.x.mark(-1, 0, true));
        b.fill(1, "abc");
        Bench.same("place", b.x.place(10), 0);
        Bench.same("place", b.x.place(11), 3);
        for (int wrong : new int[] {-1, 12, Integer.MAX_VALUE, Integer.MIN_VALUE}) {
            Bench.fails("place", INDEX, () -> b.x.place(wrong));
        }
    }

    private static void openAndShut() {
        Bench b = new Bench();
        Bench.same("open", b.x.open(), 0);
        Bench.fails("open", STATE, () -> b.x.open());
        Bench.fails("undo", STATE, () -> b.x.undo());
        Bench.fails("redo", STATE, () -> b.x.redo());
        Bench.same("shut", b.x.shut(), 0);
        Bench.fails("shut", STATE, () -> b.x.shut());
        b.x.open();
        b.fill(0, "a");
        b.fill(1, "b");
        Bench.same("shut", b.x.shut(), 1);
        Bench.same("undo", b.x.undo(), 2);
        Bench.same("size", b.x.size(0) + b.x.size(1), 0);
        b.x.open();
        Bench.same("shut", b.x.shut(), 0);
        Bench.same("redo", b.x.redo(), 2);
        Bench.same("text", b.text(0) + b.text(1), "ab");
    }

    private static void undoAndRedo() {
        Bench b = new Bench();
        int a = b.pattern("a");
        int two = b.template("$0$0");
        b.fill(0, "aba");
        b.x.replace(a, two, 0, 9);
        b.fill(1, "c");
        Bench.same("undo", b.x.undo(), 1);
        Bench.same("undo", b.x.undo(), 2);
        Bench.same("text", b.text(0), "aba");
        Bench.same("redo", b.x.redo(), 2);
        Bench.same("text", b.text(0), "aabaa");
        Bench.same("undo", b.x.undo(), 2);
        Bench.same("undo", b.x.undo(), 1);
        Bench.fails("undo", STATE, () -> b.x.undo());
        Bench.same("redo", b.x.redo(), 1);
        b.fill(2, "new");
        Bench.fails("redo", STATE, () -> b.x.redo());
        Bench.same("undo", b.x.undo(), 1);
        Bench.same("text", b.text(2), "");
    }

    private static void macros() {
        Bench b = new Bench();
        int a = b.pattern("a");
        int bs = b.pattern("b");
        int toB = b.template("b");
        int twice = b.template("$0$0");
        b.fill(0, "aa");
        b.fill(1, "aab");
        Bench.same("record", b.x.record(), -1);
        Bench.fails("play", INDEX, () -> b.x.play(0, 0));
        Bench.same("replace", b.x.replace(a, toB, 0, 1), 1);
        Bench.same("replace", b.x.replace(bs, twice, 0, 9), 1);
        Bench.fails("replace", ARGUMENT, () -> b.x.replace(bs, twice, 0, 0));
        Bench.same("record", b.x.record(), 0);
        Bench.same("play", b.x.play(0, 1), 3);
        Bench.same("text", b.text(1), "bbabb");
        Bench.same("undo", b.x.undo(), 3);
        Bench.same("text", b.text(1), "aab");
        Bench.same("redo", b.x.redo(), 3);
        Bench.same("an empty macro", b.x.record(), -1);
        Bench.same("play is not recorded", b.x.play(0, 1), 6);
        Bench.same("record", b.x.record(), 1);
        Bench.same("play", b.x.play(1, 1), 0);
        // what is not possible leaves all as it was, and can be redone still
        b.fill(2, "a" + times("b", 75));
        b.fill(0, "q");
        b.x.undo();
        Bench.fails("play", STATE, () -> b.x.play(0, 2));
        Bench.same("size", b.x.size(2), 76);
        Bench.same("sign", b.x.sign(2, 0), 'a');
        Bench.same("redo", b.x.redo(), 1);
        Bench.same("record", b.x.record(), -1);
        for (int i = 0; i < 10; i++) {
            Bench.same("replace", b.x.replace(a, toB, 0, 1), 0);
        }
        Bench.fails("replace", STATE, () -> b.x.replace(a, toB, 0, 1));
        Bench.fails("replace", ARGUMENT, () -> b.x.replace(a, toB, 0, 101));
        Bench.same("record", b.x.record(), 2);
        for (int i = 3; i < 6; i++) {
            b.x.record();
            Bench.same("record", b.x.record(), i);
        }
        Bench.fails("record", STATE, () -> b.x.record());
        Bench.same("replace", b.x.replace(a, toB, 0, 1), 0);
        for (int wrong : new int[] {-1, 6, Integer.MAX_VALUE, Integer.MIN_VALUE}) {
            Bench.fails("play", INDEX, () -> b.x.play(wrong, 0));
        }
        for (int wrong : WRONG) {
            Bench.fails("play", INDEX, () -> b.x.play(0, wrong));
        }
        // a played macro is part of the open group
        Bench.same("open", b.x.open() > 0, true);
        b.fill(1, "ab");
        Bench.same("play", b.x.play(0, 1), 3);
        b.x.shut();
        Bench.same("undo", b.x.undo(), 4);
    }

    private static void streams() {
        Bench b = new Bench();
        int abc = b.pattern("ab+c|b");
        int end = b.pattern("a$");
        int none = b.pattern("[a&&b]");
        int a = b.pattern("a");
        Bench.fails("stream", STATE, () -> b.x.stream(end, false));
        Bench.fails("stream", INDEX, () -> b.x.stream(4, false));
        Bench.fails("stream", INDEX, () -> b.x.stream(-1, false));
        Bench.same("stream", b.x.stream(abc, false), 0);
        Bench.same("stream", b.x.stream(a, true), 1);
        Bench.same("stream", b.x.stream(none, false), 2);
        Bench.same("stream", b.x.stream(a, false), 3);
        Bench.fails("stream", STATE, () -> b.x.stream(a, false));
        Bench.fails("stream", INDEX, () -> b.x.stream(9, false));
        Bench.same("told", b.x.told(2), -1);
        Bench.same("told", b.x.told(1), -5);
        Bench.same("feed", b.feed(1, "b"), -1);
        Bench.same("finish", b.x.finish(1), -1);
        Bench.same("feed", b.feed(3, "b"), -5);
        Bench.same("feed", b.feed(3, ""), -5);
        Bench.same("feed", b.feed(3, "a"), 1002);
        Bench.same("feed", b.feed(3, "a"), 1002);
        Bench.same("feed", b.feed(0, "xabb"), -5);
        Bench.same("finish", b.x.finish(0), 2003);
        b.draft("c");
        Bench.fails("feed", STATE, () -> b.x.feed(0));
        Bench.fails("finish", STATE, () -> b.x.finish(0));
        Bench.same("draft", b.x.clear(), 1);
        Bench.same("feed", b.feed(2, times("a", 80)), -1);
        Bench.same("feed", b.feed(2, ""), -1);
        b.draft("c");
        Bench.fails("feed", STATE, () -> b.x.feed(2));
        Bench.same("draft", b.x.clear(), 1);
        Bench.same("told", b.x.told(2), -1);
        for (int wrong : new int[] {-1, 4, Integer.MAX_VALUE, Integer.MIN_VALUE}) {
            Bench.fails("feed", INDEX, () -> b.x.feed(wrong));
            Bench.fails("finish", INDEX, () -> b.x.finish(wrong));
            Bench.fails("told", INDEX, () -> b.x.told(wrong));
        }
    }

    /** What goes first if several exceptions apply. */
    private static void order() {
        Bench b = new Bench();
        b.pattern("a");
        b.template("a");
        b.draft(times("a", 100));
        Bench.fails("fill", INDEX, () -> b.x.fill(-1));
        Bench.fails("replace", INDEX, () -> b.x.replace(0, 1, 0, 0));
        Bench.fails("replace", ARGUMENT, () -> b.x.replace(0, 0, 0, 0));
        Bench.fails("literal", INDEX, () -> b.x.literal(-1, -1));
        Bench.fails("begins", INDEX, () -> b.x.begins(-1, -1) ? 1 : 0);
        Bench.fails("by", INDEX, () -> b.x.by(-1, 0, 0, 1, 0));
        Bench.same("draft", b.x.clear(), 100);
    }
}
