/** The edges that "All matches, and templates", "Buffers" and "Streams" name, a sentence at a time. */
public final class EdgeMendTest {
    private static final Class<IndexOutOfBoundsException> INDEX = IndexOutOfBoundsException.class;
    private static final Class<IllegalStateException> STATE = IllegalStateException.class;
    private static final int NOT_YET = MendBench.NOT_YET;
    private static final int NONE = MendBench.NONE;
    private static final String ALL = Ask.ALL;

    public static void main(String[] args) {
        toldGroups();
        toldNames();
        letters();
        numbers();
        slashes();
        choices();
        choiceTexts();
        plainCharacters();
        templatesToTheEnd();
        threeBuffers();
        fullBuffers();
        mostMarks();
        movedMarks();
        otherBuffers();
        firstMatches();
        lastMatchFirst();
        fullReplacements();
        groupsOfCalls();
        openGroups();
        reverseEdits();
        marksOfUndo();
        newEdits();
        recordedCalls();
        playedMacros();
        mostStreams();
        takenStreams();
        pieces();
        toldStreams();
        anchoredStreams();
        finishedStreams();
        Sentence.end();
    }

    private static String times(String text, int times) {
        return text.repeat(times);
    }

    // ---- templates

    private static void isTemplate(String text, boolean due) {
        Bench b = new Bench();
        Bench.same("'" + text + "' is a template", b.template(text), due ? 0 : -1);
        Bench.same("'" + text + "' leaves the draft", b.x.clear(), due ? 0 : text.length());
    }

    /** What a text is when all matches of a pattern in it are replaced. */
    private static void makes(String pattern, String template, String in, String due) {
        Bench b = new Bench();
        int p = b.pattern(pattern);
        Bench.same("'" + template + "' is a template", b.template(template), 0);
        b.fill(1, in);
        b.x.replace(p, 0, 1, 100);
        Bench.same("'" + pattern + "' by '" + template + "' in '" + in + "'", b.text(1), due);
    }

    private static void toldGroups() {
        Sentence.says("\"$d\", d a digit, is what the group d has (the match for 0);");
        for (char c : ALL.toCharArray()) {
            isTemplate("$" + c, Ask.isDigit(c));
            isTemplate("a$" + c + "b", Ask.isDigit(c));
        }
        isTemplate("$", false);
        isTemplate("a$", false);
        isTemplate("$$", false);
        isTemplate("$0$", false);
        String nine = "(a)(b)(c)(d)(e)(f)(g)(h)(i)";
        makes(nine, "$0", "abcdefghi", "abcdefghi");
        for (int n = 1; n <= 9; n++) {
            makes(nine, "$" + n, "abcdefghi", "" + (char) ('a' + n - 1));
            makes(nine, "$" + n + "0", "abcdefghi", (char) ('a' + n - 1) + "0");
        }
        makes("", "<$0>", "", "<>");
        makes("(a)|b", "<$1>", "ab", "<a><>");
        makes("(a)|b", "<$2$9>", "ab", "<><>");
        makes("(a*)b", "<$1>", "aabb", "<aa><>");
    }

    private static void toldNames() {
        Sentence.says("\"${x}\" what the group with the name x has; nothing, if the pattern has no such group, or it has nothing.");
        for (char c : ALL.toCharArray()) {
            isTemplate("${" + c + "}", c >= 'a' && c <= 'z');
        }
        for (String wrong : new String[] {"${", "${a", "${}", "${ab}", "${a|", "${a)", "${{a}", "$a}", "${0}", "a${"}) {
            isTemplate(wrong, false);
        }
        makes("(?<a>.)(?<z>.)", "${z}${a}", "xy", "yx");
        makes("(?<a>.)(?<z>.)", "<${b}${y}>", "xy", "<>");
        makes("(?<a>a)|b", "<${a}>", "ab", "<a><>");
        makes("a", "<${a}>", "a", "<>");
        makes("(a)", "<${a}>", "a", "<>");
        makes("(?<a>a)", "${a}}", "a", "a}");
    }

    private static void letters() {
        Sentence.says("\"\\U\" and \"\\L\" make letters, those that groups give, too, upper or lower from there on, \"\\E\" as they are;");
        for (char c : ALL.toCharArray()) {
            String escaped = "\\$?".indexOf(c) >= 0 ? "\\" + c : "" + c;
            String upper = c >= 'a' && c <= 'z' ? "" + (char) (c - 32) : "" + c;
            String lower = c >= 'A' && c <= 'Z' ? "" + (char) (c + 32) : "" + c;
            makes("(?s).", "\\U$0", "" + c, upper);
            makes("(?s).", "\\L$0", "" + c, lower);
            makes("x", "\\U" + escaped + "\\L" + escaped + "\\E" + escaped, "x", upper + lower + c);
        }
        makes("(?<n>aB)", "$1\\U$1${n}$0aB\\L$1${n}$0aB\\E$1aB", "aB", "aBABABABABabababababaBaB".replace("ababababab", "abababab"));
        // Each match begins without.
        makes("a", "$0\\Ub", "aa", "aBaB");
        makes("a", "\\U", "aa", "");
        makes("(a)|b", "?1{\\U|}x$0", "ab", "XAxb");
        makes("a", "\\U\\n\\#\\{a", "a", "\n1{A");
    }

    private static void numbers() {
        Sentence.says("\"\\#\" is the number of the match, from 1;");
        makes("a", "\\#", "a", "1");
        makes("a", "\\#", "aaaaaaaaa", "123456789");
        makes("a", "\\#", "aaaaaaaaaaa", "1234567891011");
        makes("a", "\\#\\#", "aa", "1122");
        StringBuilder all = new StringBuilder();
        for (int i = 1; i <= 44; i++) {
            all.append(i);
        }
        makes("a", "\\#", times("a", 44), all.substring(0, 79));
        // The last ones of as many as there can be, with nothing in place of the others.
        makes("a(?=a)|(?<=a)(b)$", "?1{\\#|}", times("a", 79) + "b", "a79");
        makes("a|(b)", "?1{\\#|}", times("a", 79) + "b", "80");
        makes("a|($)", "?1{\\#|}", times("a", 80), "81");
    }

    private static void slashes() {
        Sentence.says("\"\\n\" is 10; \"\\\" ahead of a printable character that is neither a letter, nor a digit, nor a blank, is that.");
        makes("x", "a\\nb", "x", "a\nb");
        for (char c : ALL.toCharArray()) {
            isTemplate("\\" + c, Ask.isSymbol(c) || "ULEn".indexOf(c) >= 0);
            isTemplate("?1{\\" + c + "}", Ask.isSymbol(c) || "ULEn".indexOf(c) >= 0);
            if (Ask.isSymbol(c)) {
                makes("x", "\\" + c, "x", c == '#' ? "1" : "" + c);
                makes("x", "?0{\\" + c + "|}", "x", c == '#' ? "1" : "" + c);
            }
        }
        isTemplate("\\", false);
        isTemplate("a\\", false);
        isTemplate("\\\\\\", false);
    }

    private static void choices() {
        Sentence.says("are A if the group d has something, otherwise B, or nothing;");
        makes("(a)|b", "?1{x|y}", "ab", "xy");
        makes("(a)|b", "?1{x}", "ab", "x");
        makes("(a)|b", "?1{|y}", "ab", "y");
        makes("(a)|b", "?1{x|}", "ab", "x");
        makes("(a)|b", "<?1{|}>", "ab", "<><>");
        makes("(a)|b", "<?1{}>", "ab", "<><>");
        makes("()|b", "?1{x|y}", "b", "xbx");
        makes("a", "?0{x|y}", "a", "x");
        makes("", "?0{x|y}", "", "x");
        makes("a", "?1{x|y}", "a", "y");
        makes("(a)", "?2{x|y}?9{x|y}", "a", "yy");
        makes("()()()()()()()()(a)", "?9{x|y}", "a", "x");
        makes("(a)(b)?", "?1{$2$1|}?2{$1|$0}", "aba", "baaaa");
    }

    private static void choiceTexts() {
        Sentence.says("A and B are read likewise, but without such conditions (\"?\" is not let there, nor a second \"|\"), up to the first \"|\" or \"}\" that is neither behind \"\\\" nor that of \"${x}\".");
        for (char c : ALL.toCharArray()) {
            isTemplate("?" + c + "{}", Ask.isDigit(c));
            isTemplate("?1" + c + "}", c == '{');
            boolean isBad = "\\$?".indexOf(c) >= 0;
            isTemplate("?1{" + c + "}", !isBad);
            isTemplate("?1{a|" + c + "}", !isBad && c != '|');
        }
        for (String is : new String[] {"?1{\\?}", "?1{a|\\|}", "?1{\\||\\|}", "?1{\\}}", "?1{${a}}", "?1{${a}|${a}}", "?1{a}}", "?1{a}|", "?1{a}|b|c", "?1{{}",
            "?1{{|{}", "?1{a}?1{b}", "?1{a|b}?1{a|b}", "?1{$1|$2}", "?1{\\U|\\n}", "?1{}{}"}) {
            isTemplate(is, true);
        }
        for (String none : new String[] {"?", "?1", "?1{", "?1{a", "?1{a|", "?1{a|b", "?1a}", "?{a}", "?12{a}", "? 1{a}", "?1 {a}", "?1{?}", "?1{?1{a}}",
            "?1{a|?1{a}}", "?1{a|b|c}", "?1{||}", "?1{a\\}", "?1{a|b\\}", "?1{${a}", "?1{${a", "?1{$}", "?1{a|$}", "?1{${|}}", "??", "?1{a}?"}) {
            isTemplate(none, false);
        }
        makes("(?<a>a)", "?1{\\}\\|${a}|b}|}", "a", "}|a|}");
        makes("(?<a>a)", "?2{a|\\}\\|${a}}}", "a", "}|a}");
    }

    private static void plainCharacters() {
        Sentence.says("Other characters than \\ $ ? stand for themselves.");
        for (char c : ALL.toCharArray()) {
            boolean isBad = "\\$?".indexOf(c) >= 0;
            isTemplate("" + c, !isBad);
            if (!isBad) {
                makes("x", "" + c, "x", "" + c);
                makes("x", "a" + c + "b", "x", "a" + c + "b");
            }
        }
    }

    private static void templatesToTheEnd() {
        Sentence.says("A text is no template if it cannot be read so to its end.");
        isTemplate("", true);
        isTemplate(times("a", 120), true);
        isTemplate(times("a", 119) + "$", false);
        isTemplate(times("a", 119) + "\\", false);
        isTemplate(times("a", 119) + "?", false);
        isTemplate(times("a", 118) + "$1", true);
        isTemplate(times("a", 116) + "?1{}", true);
        isTemplate(times("a", 117) + "?1{", false);
        isTemplate("?1{" + times("a", 116) + "}", true);
        isTemplate("?1{" + times("a", 117), false);
        makes("x", "", "axb", "ab");
        makes("x", times("a", 79), "xb", times("a", 79) + "b");
    }

    // ---- buffers

    private static void threeBuffers() {
        Sentence.says("There are the buffers 0 to 2, with texts of at most 80 characters, empty at first.");
        Bench b = new Bench();
        int any = b.pattern(".");
        for (int buffer = 0; buffer < 3; buffer++) {
            Bench.same("size", b.x.size(buffer), 0);
            Bench.same("find", b.x.find(any, buffer, 0, 0), -1);
            final int empty = buffer;
            Bench.fails("sign", INDEX, () -> b.x.sign(empty, 0));
        }
        for (int buffer = 0; buffer < 3; buffer++) {
            Bench.same("fill", b.fill(buffer, times("a", buffer + 1)), buffer + 1);
        }
        for (int buffer = 0; buffer < 3; buffer++) {
            Bench.same("each has its own", b.x.size(buffer), buffer + 1);
        }
        for (int wrong : new int[] {-1, 3, Integer.MAX_VALUE, Integer.MIN_VALUE}) {
            Bench.fails("size", INDEX, () -> b.x.size(wrong));
            Bench.fails("find", INDEX, () -> b.x.find(any, wrong, 0, 0));
            Bench.fails("anew", INDEX, () -> b.x.anew(any, wrong, 0, 0));
            Bench.fails("by", INDEX, () -> b.x.by(0, any, wrong, 0, 0));
            Bench.fails("steps", INDEX, () -> b.x.steps(any, wrong, 0));
            Bench.fails("back", INDEX, () -> b.x.back(any, wrong, 0));
            Bench.fails("matches", INDEX, () -> b.x.matches(any, wrong));
            Bench.fails("match", INDEX, () -> b.x.match(any, wrong, 0));
            Bench.fails("fill", INDEX, () -> b.x.fill(wrong));
            Bench.fails("sign", INDEX, () -> b.x.sign(wrong, 0));
            Bench.fails("mark", INDEX, () -> b.x.mark(wrong, 0, true));
        }
    }

    private static void fullBuffers() {
        Sentence.says("Throws `IllegalStateException` if the draft has more than 80");
        for (int size : new int[] {0, 1, 79, 80, 81, 119, 120}) {
            for (int buffer = 0; buffer < 3; buffer++) {
                Bench b = new Bench();
                final int told = buffer;
                b.fill(told, "xy");
                b.draft(times("a", size));
                if (size <= 80) {
                    Bench.same("fill", b.x.fill(told), size);
                    Bench.same("draft", b.x.clear(), 0);
                    Bench.same("text", b.text(told), times("a", size));
                } else {
                    Bench.fails("fill", STATE, () -> b.x.fill(told));
                    Bench.same("draft", b.x.clear(), size);
                    Bench.same("text", b.text(told), "xy");
                }
            }
        }
    }

    private static void mostMarks() {
        Sentence.says("Marks are numbered from 0, at most 12; a mark is at a place of a buffer, and sticks to the left or to the right.");
        Bench b = new Bench();
        b.fill(2, "abc");
        Bench.fails("no mark yet", INDEX, () -> b.x.place(0));
        for (int i = 0; i < 12; i++) {
            final int next = i + 1;
            Bench.same("mark", b.x.mark(i % 3, i % 3 == 2 ? 3 : 0, i % 2 == 0), i);
            Bench.same("place", b.x.place(i), i % 3 == 2 ? 3 : 0);
            Bench.fails("none further", INDEX, () -> b.x.place(next));
            Bench.fails("none below", INDEX, () -> b.x.place(-1));
        }
        Bench.fails("a 13th one", STATE, () -> b.x.mark(0, 0, true));
        Bench.fails("a 13th one", STATE, () -> b.x.mark(2, 3, false));
        Bench.fails("no 13th one", INDEX, () -> b.x.place(12));
    }

    /** Where a mark goes, as the document says it. */
    private static int moved(int place, boolean isRight, int a, int b, int n) {
        if (place < a || place == a && !isRight) {
            return place;
        }
        return place >= b ? place + n - (b - a) : isRight ? a + n : a;
    }

    private static void movedMarks() {
        Sentence.says("By an edit of its buffer: a mark ahead of a stays, also one at a that sticks to the left; of the others one at b or behind it moves by n less (b less a); one between goes to a, if it sticks to the left, otherwise to a and n, added.");
        String text = "0123456789";
        for (int a = 0; a <= 10; a++) {
            for (int b = a; b <= 10; b++) {
                String pattern = a < b ? text.substring(a, b) : a < 10 ? "(?=" + text.charAt(a) + ")" : "$";
                for (int n : new int[] {0, 1, b - a, b - a + 1, 5}) {
                    edited(text, pattern, a, b, n, false);
                    edited(text, pattern, a, b, n, true);
                }
            }
        }
        for (int size : new int[] {0, 1, 10}) {
            for (int n : new int[] {0, 1, 80}) {
                filled(size, n);
            }
        }
    }

    private static void edited(String text, String pattern, int a, int b, int n, boolean isRight) {
        Bench bench = new Bench();
        bench.fill(1, text);
        int number = bench.pattern(pattern);
        int template = bench.template(times("x", n));
        for (int place = 0; place <= 10; place++) {
            bench.x.mark(1, place, isRight);
        }
        String what = " by " + a + " to " + b + " with " + n + " right " + isRight;
        Bench.same("replace" + what, bench.x.replace(number, template, 1, 1), 1);
        Bench.same("text" + what, bench.text(1), text.substring(0, a) + times("x", n) + text.substring(b));
        int[] places = new int[11];
        for (int i = 0; i <= 10; i++) {
            places[i] = moved(i, isRight, a, b, n);
            Bench.same(i + what, bench.x.place(i), places[i]);
        }
        bench.x.undo();
        for (int i = 0; i <= 10; i++) {
            places[i] = moved(places[i], isRight, a, a + n, b - a);
            Bench.same(i + " and back" + what, bench.x.place(i), places[i]);
        }
        bench.x.redo();
        for (int i = 0; i <= 10; i++) {
            places[i] = moved(places[i], isRight, a, b, n);
            Bench.same(i + " and again" + what, bench.x.place(i), places[i]);
        }
    }

    /** A fill is an edit of all that a buffer has, be it empty or not. */
    private static void filled(int size, int n) {
        Bench b = new Bench();
        b.fill(0, times("a", size));
        b.x.mark(0, 0, false);
        b.x.mark(0, 0, true);
        b.x.mark(0, size, false);
        b.x.mark(0, size, true);
        b.x.mark(0, size / 2, false);
        b.x.mark(0, size / 2, true);
        b.fill(0, times("b", n));
        int[] places = {0, 0, size, size, size / 2, size / 2};
        for (int i = 0; i < 6; i++) {
            places[i] = moved(places[i], i % 2 == 1, 0, size, n);
            Bench.same("mark " + i + " by a fill of " + size + " with " + n, b.x.place(i), places[i]);
        }
        Bench.same("one edit", b.x.undo(), 1);
        for (int i = 0; i < 6; i++) {
            Bench.same("mark " + i + " by its undo", b.x.place(i), moved(places[i], i % 2 == 1, 0, n, size));
        }
    }

    private static void otherBuffers() {
        Sentence.says("An edit replaces the characters of a buffer from a place a up to a place b by a text of n characters.");
        Bench b = new Bench();
        for (int buffer = 0; buffer < 3; buffer++) {
            b.fill(buffer, "abc");
            b.x.mark(buffer, 2, true);
        }
        int pattern = b.pattern("b");
        int template = b.template("xyz");
        b.x.replace(pattern, template, 1, 1);
        Bench.same("its mark", b.x.place(1), 4);
        Bench.same("of the one ahead", b.x.place(0), 2);
        Bench.same("of the one behind", b.x.place(2), 2);
        Bench.same("its text", b.text(1), "axyzc");
        Bench.same("of the one ahead", b.text(0), "abc");
        Bench.same("of the one behind", b.text(2), "abc");
        b.x.undo();
        Bench.same("its mark", b.x.place(1), 2);
        Bench.same("of the one ahead", b.x.place(0), 2);
        Bench.same("its text", b.text(1), "abc");
    }

    // ---- replacements

    private static void firstMatches() {
        Sentence.says("of the matches in its text as many as are told are replaced, the first ones, each by what the template makes of it;");
        String all = times("a", 80);
        for (int most : new int[] {1, 2, 79, 80, 81, 100}) {
            Bench b = new Bench();
            int pattern = b.pattern("a");
            int template = b.template("b");
            b.fill(0, all);
            int due = Math.min(80, most);
            Bench.same("replace " + most, b.x.replace(pattern, template, 0, most), due);
            Bench.same("text", b.text(0), times("b", due) + times("a", 80 - due));
            Bench.same("edits", b.x.undo(), due);
            Bench.same("text", b.text(0), all);
        }
        for (int most : new int[] {1, 80, 81, 100}) {
            Bench b = new Bench();
            int pattern = b.pattern("");
            int template = b.template("");
            b.fill(0, all);
            Bench.same("replace " + most, b.x.replace(pattern, template, 0, most), Math.min(81, most));
            Bench.same("edits that change nothing are edits", b.x.undo(), Math.min(81, most));
        }
        Bench none = new Bench();
        int pattern = none.pattern("a");
        int template = none.template("b");
        Bench.same("in an empty one", none.x.replace(pattern, template, 0, 100), 0);
        Bench.fails("no edits are no group", STATE, () -> none.x.undo());
        // The matches are those of the text as it is, not as it becomes.
        makes("a", "aa", "aba", "aabaa");
        makes("a|", "b", "aab", "bbbbb");
        makes("^a", "", "aaa", "aa");
        makes("(?<=a)b|a", "", "ab", "");
    }

    private static void lastMatchFirst() {
        Sentence.says("the last one of these is edited first.");
        Bench b = new Bench();
        int pattern = b.pattern("(a)|(?<=a)");
        int template = b.template("?1{|x}");
        b.fill(0, "ab");
        b.x.mark(0, 0, true);
        b.x.mark(0, 1, true);
        b.x.mark(0, 1, false);
        Bench.same("replace", b.x.replace(pattern, template, 0, 100), 2);
        Bench.same("text", b.text(0), "xb");
        // "x" is put at 1 first, behind the mark at 0; then "a" goes away, and what is behind it comes nearer.
        Bench.same("the mark at 0", b.x.place(0), 0);
        Bench.same("the mark at 1 to the right", b.x.place(1), 1);
        Bench.same("the mark at 1 to the left", b.x.place(2), 0);
        Bench.same("undo", b.x.undo(), 2);
        Bench.same("text", b.text(0), "ab");
        // Undone in turn: "a" comes back at 0, which takes marks to the right along, then "x" goes.
        Bench.same("the mark at 0", b.x.place(0), 1);
        Bench.same("the mark at 1 to the right", b.x.place(1), 1);
        Bench.same("the mark at 1 to the left", b.x.place(2), 0);
    }

    private static void fullReplacements() {
        Sentence.says("if a search is TOO_FAR ahead of so many matches, the buffer would have more than 80 characters behind all of it, or a macro that is recorded has 10 replacements");
        for (int had : new int[] {1, 39, 40, 41, 79, 80}) {
            Bench b = new Bench();
            int pattern = b.pattern("a");
            int two = b.template("xy");
            int one = b.template("x");
            int none = b.template("");
            b.fill(0, times("a", had));
            int room = 80 - had;
            if (had <= 40) {
                Bench.same("all", b.x.replace(pattern, two, 0, 100), had);
                Bench.same("size", b.x.size(0), 2 * had);
                b.x.undo();
            } else {
                Bench.fails("all", STATE, () -> b.x.replace(pattern, two, 0, 100));
                Bench.fails("one more than there is room for", STATE, () -> b.x.replace(pattern, two, 0, room + 1));
                Bench.same("size", b.x.size(0), had);
            }
            if (room > 0) {
                int most = Math.min(room, had);
                Bench.same("as there is room for", b.x.replace(pattern, two, 0, most), most);
                Bench.same("size", b.x.size(0), had + most);
                b.x.undo();
            }
            Bench.same("as long as before", b.x.replace(pattern, one, 0, 100), had);
            b.x.undo();
            Bench.same("nothing left", b.x.replace(pattern, none, 0, 100), had);
            Bench.same("size", b.x.size(0), 0);
        }
        // More on the way is no harm: the last one is made long first, the first one goes away then.
        Bench way = new Bench();
        int split = way.pattern("(b{20}b{19})|a");
        int grow = way.template("?1{|" + times("x", 40) + "}");
        way.fill(1, times("b", 39) + times("c", 40) + "a");
        Bench.same("80 in the end", way.x.replace(split, grow, 1, 100), 2);
        Bench.same("text", way.text(1), times("c", 40) + times("x", 40));
        way.fill(1, times("b", 39) + times("c", 40) + "a");
        int more = way.template("?1{|" + times("x", 41) + "}");
        Bench.fails("81 in the end", STATE, () -> way.x.replace(split, more, 1, 100));
        // Far more than a template can make for a whole buffer.
        Bench long1 = new Bench();
        int whole = long1.pattern("(?s).+");
        int many = long1.template(times("$0", 60));
        long1.fill(0, times("a", 80));
        Bench.fails("60 times 80", STATE, () -> long1.x.replace(whole, many, 0, 1));
        long1.fill(0, "a");
        Bench.same("60 times 1", long1.x.replace(whole, many, 0, 1), 1);
        Bench.fails("60 times 60", STATE, () -> long1.x.replace(whole, many, 0, 1));
        Bench.same("size", long1.x.size(0), 60);
        tooFar();
        tenReplacements();
    }

    private static void tooFar() {
        Bench b = new Bench();
        int far = b.pattern("ab|(?:a+)+c");
        int template = b.template("x");
        b.fill(0, "abab" + times("a", 20));
        Bench.same("ahead of it", b.x.replace(far, template, 0, 1), 1);
        b.x.undo();
        Bench.same("up to it", b.x.replace(far, template, 0, 2), 2);
        b.x.undo();
        Bench.fails("behind so many", STATE, () -> b.x.replace(far, template, 0, 3));
        Bench.fails("behind so many", STATE, () -> b.x.replace(far, template, 0, 100));
        Bench.same("size", b.x.size(0), 24);
    }

    private static void tenReplacements() {
        Bench b = new Bench();
        int pattern = b.pattern("a");
        int template = b.template("b");
        b.fill(0, times("a", 30));
        b.x.record();
        for (int i = 0; i < 10; i++) {
            Bench.same("replace", b.x.replace(pattern, template, 0, 1), 1);
        }
        Bench.fails("an 11th one", STATE, () -> b.x.replace(pattern, template, 0, 1));
        Bench.fails("an 11th one without a match", STATE, () -> b.x.replace(pattern, template, 1, 1));
        Bench.same("text", b.text(0), times("b", 10) + times("a", 20));
        Bench.same("record", b.x.record(), 0);
        Bench.same("when it is ended", b.x.replace(pattern, template, 0, 1), 1);
        b.fill(0, times("a", 30));
        Bench.same("play", b.x.play(0, 0), 10);
        b.x.record();
        Bench.same("the next one has room again", b.x.replace(pattern, template, 0, 1), 1);
    }

    // ---- groups of edits

    private static void groupsOfCalls() {
        Sentence.says("the edits of a call are a group, but those of all calls between opening a group and shutting it are one together.");
        Bench b = new Bench();
        int pattern = b.pattern("a");
        int template = b.template("bb");
        b.fill(0, "aaa");
        b.fill(1, "a");
        Bench.same("two calls", b.x.open(), 2);
        Bench.same("replace", b.x.replace(pattern, template, 0, 100), 3);
        Bench.same("replace", b.x.replace(pattern, template, 1, 100), 1);
        b.fill(2, "c");
        Bench.same("shut", b.x.shut(), 3);
        Bench.same("replace", b.x.replace(pattern, template, 0, 100), 0);
        b.fill(2, "d");
        Bench.same("the fill alone", b.x.undo(), 1);
        Bench.same("the group", b.x.undo(), 5);
        Bench.same("texts", b.text(0) + "|" + b.text(1) + "|" + b.text(2), "aaa|a|");
        Bench.same("the second fill", b.x.undo(), 1);
        Bench.same("the first fill", b.x.undo(), 1);
        Bench.fails("no more", STATE, () -> b.x.undo());
        for (int due : new int[] {1, 1, 5, 1}) {
            Bench.same("redo", b.x.redo(), due);
        }
        Bench.fails("no more", STATE, () -> b.x.redo());
        Bench.same("texts", b.text(0) + "|" + b.text(1) + "|" + b.text(2), "bbbbbb|bb|d");
    }

    private static void openGroups() {
        Sentence.says("Shuts the open group; without edits it is none.");
        Bench b = new Bench();
        int pattern = b.pattern("a");
        int template = b.template("b");
        Bench.fails("none is open", STATE, () -> b.x.shut());
        Bench.same("open", b.x.open(), 0);
        Bench.same("shut", b.x.shut(), 0);
        Bench.fails("none is open", STATE, () -> b.x.shut());
        Bench.fails("no group", STATE, () -> b.x.undo());
        b.x.open();
        Bench.same("no match", b.x.replace(pattern, template, 0, 1), 0);
        b.x.mark(0, 0, true);
        Bench.same("shut", b.x.shut(), 0);
        b.x.open();
        Bench.same("an empty fill is an edit", b.fill(0, ""), 0);
        Bench.same("shut", b.x.shut(), 1);
        Bench.same("undo", b.x.undo(), 1);
        // Without edits what was undone can still be redone.
        b.x.open();
        Bench.same("shut", b.x.shut(), 0);
        Bench.same("redo", b.x.redo(), 1);
        Sentence.says("Throws `IllegalStateException` if one is open");
        b.x.open();
        Bench.fails("open", STATE, () -> b.x.open());
        b.fill(0, "a");
        Bench.fails("open", STATE, () -> b.x.open());
        Bench.same("shut", b.x.shut(), 2);
        Bench.same("open", b.x.open(), 2);
        b.x.shut();
        Sentence.says("Throws `IllegalStateException` if a group is open, or there is none");
        Bench c = new Bench();
        Bench.fails("undo", STATE, () -> c.x.undo());
        Bench.fails("redo", STATE, () -> c.x.redo());
        c.fill(0, "a");
        c.fill(0, "b");
        Bench.fails("redo", STATE, () -> c.x.redo());
        c.x.undo();
        c.x.open();
        Bench.fails("undo", STATE, () -> c.x.undo());
        Bench.fails("redo", STATE, () -> c.x.redo());
        Bench.same("text", c.text(0), "a");
        c.x.shut();
        Bench.same("redo", c.x.redo(), 1);
        Bench.fails("redo", STATE, () -> c.x.redo());
        Bench.same("undo", c.x.undo(), 1);
        Bench.same("undo", c.x.undo(), 1);
        Bench.fails("undo", STATE, () -> c.x.undo());
    }

    private static void reverseEdits() {
        Sentence.says("To undo a group is to do the reverse edits (each puts back what was there), the last one first; to redo it, the same edits again in their order.");
        Bench b = new Bench();
        int any = b.pattern("(?s).");
        int more = b.template("$0$0");
        int none = b.template("");
        String first = "ab\n~";
        b.fill(0, first);
        b.x.open();
        b.x.replace(any, more, 0, 100);
        b.x.replace(any, more, 0, 3);
        b.fill(0, times("z", 80));
        b.fill(0, "");
        b.fill(0, "xy");
        b.x.replace(any, none, 0, 1);
        Bench.same("shut", b.x.shut(), 2);
        for (int i = 0; i < 3; i++) {
            Bench.same("text", b.text(0), "y");
            Bench.same("undo", b.x.undo(), 4 + 3 + 3 + 1);
            Bench.same("text", b.text(0), first);
            Bench.same("redo", b.x.redo(), 4 + 3 + 3 + 1);
        }
        // As many as there are calls, back to the beginning and again.
        Bench many = new Bench();
        for (int i = 0; i < 150; i++) {
            many.x.type('a' + i % 26);
            many.x.fill(i % 3);
        }
        for (int i = 0; i < 150; i++) {
            Bench.same("undo", many.x.undo(), 1);
        }
        Bench.same("size", many.x.size(0) + many.x.size(1) + many.x.size(2), 0);
        Bench.fails("undo", STATE, () -> many.x.undo());
        Bench.same("redo", many.x.redo(), 1);
        Bench.same("text", many.text(0), "a");
    }

    private static void marksOfUndo() {
        Sentence.says("Marks move by all of these.");
        Bench b = new Bench();
        int pattern = b.pattern("bc");
        int template = b.template("x");
        b.fill(0, "abcd");
        int left = b.x.mark(0, 2, false);
        int right = b.x.mark(0, 2, true);
        int behind = b.x.mark(0, 4, false);
        b.x.replace(pattern, template, 0, 1);
        Bench.same("left", b.x.place(left), 1);
        Bench.same("right", b.x.place(right), 2);
        Bench.same("behind", b.x.place(behind), 3);
        b.x.undo();
        Bench.same("left", b.x.place(left), 1);
        Bench.same("right", b.x.place(right), 3);
        Bench.same("behind", b.x.place(behind), 4);
        b.x.redo();
        Bench.same("left", b.x.place(left), 1);
        Bench.same("right", b.x.place(right), 2);
        Bench.same("behind", b.x.place(behind), 3);
        b.x.undo();
        b.x.undo();
        for (int mark = 0; mark < 3; mark++) {
            Bench.same("in an empty buffer", b.x.place(mark), 0);
        }
        b.x.redo();
        Bench.same("left", b.x.place(left), 0);
        Bench.same("right", b.x.place(right), 4);
        Bench.same("behind", b.x.place(behind), 0);
    }

    private static void newEdits() {
        Sentence.says("With a new edit nothing can be redone any more.");
        for (int kind = 0; kind < 5; kind++) {
            Bench b = new Bench();
            int pattern = b.pattern("a");
            int none = b.pattern("z");
            int template = b.template("a");
            b.x.record();
            b.fill(0, "a");
            b.x.replace(pattern, template, 0, 1);
            b.x.record();
            b.fill(1, "b");
            b.x.undo();
            b.x.undo();
            // Ahead of it: calls that make no edit.
            Bench.same("no match", b.x.replace(none, template, 0, 100), 0);
            Bench.same("no match to play on", b.x.play(0, 1), 0);
            b.x.mark(0, 0, true);
            b.draft(times("a", 81));
            Bench.fails("fill", STATE, () -> b.x.fill(0));
            Bench.same("it can be redone still", b.x.redo(), 1);
            Bench.same("undo", b.x.undo(), 1);
            if (kind == 4) {
                b.x.open();
            }
            if (kind == 0) {
                b.fill(2, "");
            } else if (kind == 1) {
                b.x.replace(pattern, template, 0, 1);
            } else if (kind == 2) {
                b.x.play(0, 0);
            } else {
                b.fill(0, "a");
            }
            if (kind == 4) {
                b.x.shut();
            }
            Bench.fails("redo", STATE, () -> b.x.redo());
            Bench.same("undo", b.x.undo(), 1);
            Bench.same("redo of the new one", b.x.redo(), 1);
            Bench.fails("and of no other", STATE, () -> b.x.redo());
        }
    }

    // ---- macros

    private static void recordedCalls() {
        Sentence.says("A macro is recorded: replacements that are called while it is, with pattern, template and how many.");
        Bench b = new Bench();
        int a = b.pattern("a");
        int c = b.pattern("c");
        int x = b.template("x");
        int y = b.template("y$0");
        b.fill(0, "aac");
        b.fill(1, "aaac");
        b.x.replace(a, y, 1, 1);
        Bench.same("record", b.x.record(), -1);
        Bench.same("replace", b.x.replace(a, x, 0, 2), 2);
        Bench.same("without a match it is recorded, too", b.x.replace(a, y, 0, 1), 0);
        Bench.same("in another buffer", b.x.replace(c, x, 1, 100), 1);
        b.fill(2, "aaa");
        Bench.fails("one that is refused is not", IllegalArgumentException.class, () -> b.x.replace(a, x, 0, 0));
        b.x.undo();
        b.x.open();
        b.x.shut();
        Bench.same("record", b.x.record(), 0);
        b.x.replace(a, x, 1, 1);
        b.fill(2, "aaaacc");
        Bench.same("play", b.x.play(0, 2), 2 + 1 + 2);
        Bench.same("text", b.text(2), "xxyaaxx");
        Sentence.says("Throws `IllegalStateException` if it would begin, and there are 6 macros");
        for (int i = 1; i < 6; i++) {
            final int next = i;
            Bench.fails("not there yet", INDEX, () -> b.x.play(next, 0));
            Bench.same("record", b.x.record(), -1);
            Bench.fails("not ended yet", INDEX, () -> b.x.play(next, 0));
            Bench.same("it ends", b.x.record(), i);
            Bench.same("an empty one", b.x.play(i, 0), 0);
        }
        Bench.fails("a 7th one", STATE, () -> b.x.record());
        Bench.fails("a 7th one", STATE, () -> b.x.record());
        Bench.fails("none", INDEX, () -> b.x.play(6, 0));
        for (int i = 0; i < 11; i++) {
            Bench.same("nothing is recorded", b.x.replace(a, x, 0, 1), 0);
        }
        Bench.same("the first one is as it was", b.x.play(0, 2), 2);
        Bench.same("text", b.text(2), "xxyxxxx");
    }

    private static void playedMacros() {
        Sentence.says("To play it on a buffer does them there, in order, as one group (or as part of the open one).");
        Bench b = new Bench();
        int a = b.pattern("a");
        int x = b.pattern("x");
        int toX = b.template("x");
        int toYy = b.template("yy");
        b.fill(0, "a");
        b.x.record();
        b.x.replace(a, toX, 0, 100);
        b.x.replace(x, toYy, 0, 1);
        b.x.record();
        b.fill(1, "aab");
        Bench.same("play", b.x.play(0, 1), 3);
        Bench.same("text", b.text(1), "yyxb");
        Bench.same("one group", b.x.undo(), 3);
        Bench.same("text", b.text(1), "aab");
        Bench.same("redo", b.x.redo(), 3);
        int groups = b.x.open();
        b.fill(2, "a");
        Bench.same("play", b.x.play(0, 2), 2);
        Bench.same("shut", b.x.shut(), groups + 1);
        Bench.same("part of the open one", b.x.undo(), 3);
        Sentence.says("(What it replaces is not recorded.)");
        b.fill(2, "aa");
        b.x.record();
        Bench.same("play", b.x.play(0, 2), 3);
        Bench.same("record", b.x.record(), 1);
        b.fill(2, "aa");
        Bench.same("an empty one", b.x.play(1, 2), 0);
        b.x.record();
        for (int i = 0; i < 10; i++) {
            b.x.replace(a, toX, 0, 1);
        }
        Bench.same("a macro that is full does not refuse it", b.x.play(0, 2), 3);
        b.x.record();
        Sentence.says("Throws `IllegalStateException` if one of its replacements would not be possible");
        refusedPlays();
    }

    private static void refusedPlays() {
        for (int size = 38; size <= 42; size++) {
            Bench b = new Bench();
            int a = b.pattern("a");
            int far = b.pattern("b|(?:x+)+c");
            int one = b.template("x");
            int two = b.template("aa");
            b.fill(0, "a");
            b.x.record();
            b.x.replace(a, two, 0, 100);
            b.x.record();
            b.fill(0, "a");
            b.x.record();
            b.x.replace(a, two, 0, 1);
            b.x.replace(a, two, 0, 100);
            b.x.record();
            b.fill(0, "a");
            b.x.record();
            b.x.replace(a, one, 0, 100);
            b.x.replace(far, one, 0, 100);
            b.x.record();
            b.fill(1, times("a", size));
            boolean fits = 2 * size <= 80;
            if (fits) {
                Bench.same("play", b.x.play(0, 1), size);
                b.x.undo();
            } else {
                Bench.fails("play", STATE, () -> b.x.play(0, 1));
            }
            // The second one is not possible: what the first one did is not there, either.
            if (2 * (size + 1) <= 80) {
                Bench.same("play", b.x.play(1, 1), 1 + size + 1);
                b.x.undo();
            } else {
                Bench.fails("play", STATE, () -> b.x.play(1, 1));
            }
            Bench.same("text", b.text(1), times("a", size));
            Bench.fails("too far", STATE, () -> b.x.play(2, 1));
            Bench.same("text", b.text(1), times("a", size));
            b.fill(1, times("a", 3));
            Bench.same("not too far", b.x.play(2, 1), 3);
        }
    }

    // ---- streams

    private static void mostStreams() {
        Sentence.says("Streams are numbered from 0, at most 4;");
        Bench b = new Bench();
        int a = b.pattern("a");
        int end = b.pattern("a$");
        Bench.fails("none yet", INDEX, () -> b.x.told(0));
        for (int i = 0; i < 4; i++) {
            final int next = i + 1;
            Bench.fails("not taken", STATE, () -> b.x.stream(end, false));
            Bench.same("stream", b.x.stream(a, i % 2 == 0), i);
            Bench.same("told", b.x.told(i), NOT_YET);
            Bench.fails("none further", INDEX, () -> b.x.told(next));
            Bench.fails("none further", INDEX, () -> b.x.feed(next));
            Bench.fails("none further", INDEX, () -> b.x.finish(next));
            Bench.fails("none below", INDEX, () -> b.x.told(-1));
        }
        Bench.fails("a fifth one", STATE, () -> b.x.stream(a, false));
        b.x.finish(0);
        Bench.fails("a fifth one though one is finished", STATE, () -> b.x.stream(a, false));
        Bench.fails("of no pattern", INDEX, () -> b.x.stream(2, false));
    }

    private static void takenStreams() {
        Sentence.says("a stream is for a pattern that the engine 2 takes, and gets pieces of a text, of at most 80 characters together.");
        String[] taken = {"", "a", "(a|b)*c", "a{20}", "(?i:a)+?"};
        String[] not = {"^a", "a$", "\\ba", "(?=a)", "a++", "(?>a)", "(a)\\1", "(?0)|a", "(*C)a", "(a?)*", "(?(1)a)()"};
        for (String pattern : taken) {
            Bench b = new Bench();
            Bench.same("a stream of " + pattern, b.x.stream(b.pattern(pattern), false), 0);
        }
        for (String pattern : not) {
            Bench b = new Bench();
            int number = b.pattern(pattern);
            Bench.fails("a stream of " + pattern, STATE, () -> b.x.stream(number, true));
            Bench.fails("no stream", INDEX, () -> b.x.told(0));
        }
    }

    private static void pieces() {
        Sentence.says("Throws `IllegalStateException` if it is finished, or its text would have more than 80 characters");
        for (int had : new int[] {0, 1, 40, 79, 80}) {
            Bench b = new Bench();
            b.x.stream(b.pattern("b"), false);
            Bench.same("feed", b.feed(0, times("a", had)), NOT_YET);
            for (int more : new int[] {80 - had + 1, 120}) {
                b.draft(times("b", more));
                Bench.fails("feed " + more + " behind " + had, STATE, () -> b.x.feed(0));
                Bench.same("told", b.x.told(0), NOT_YET);
                Bench.same("draft", b.x.clear(), more);
            }
            Bench.same("nothing", b.feed(0, ""), NOT_YET);
            Bench.same("what there is room for", b.feed(0, times("a", 80 - had)), NOT_YET);
            Bench.same("draft", b.x.clear(), 0);
            Bench.same("nothing, when it is full", b.feed(0, ""), NOT_YET);
            b.draft("b");
            Bench.fails("one more", STATE, () -> b.x.feed(0));
            Bench.same("finish", b.x.finish(0), NONE);
            b.draft("");
            Bench.fails("nothing, when it is finished", STATE, () -> b.x.feed(0));
        }
        Bench told = new Bench();
        told.x.stream(told.pattern("a"), false);
        Bench.same("feed", told.feed(0, "a"), 1);
        Bench.same("behind a match", told.feed(0, times("a", 79)), 1);
        told.draft("a");
        Bench.fails("one more behind a match", STATE, () -> told.x.feed(0));
    }

    private static int streamed(String pattern, boolean isAnchored, String... pieces) {
        Bench b = new Bench();
        b.x.stream(b.pattern(pattern), isAnchored);
        int told = b.x.told(0);
        for (String piece : pieces) {
            told = b.feed(0, piece);
            Bench.same("what feed answers is told", b.x.told(0), told);
        }
        return told;
    }

    private static void tells(String pattern, boolean isAnchored, String text, int due, int last) {
        String what = "'" + pattern + "' on '" + text + "' anchored " + isAnchored;
        Bench.same(what, streamed(pattern, isAnchored, text), due);
        Bench.same(what + " by characters", streamed(pattern, isAnchored, text.split("")), due);
        Bench.same(what + " by two pieces", streamed(pattern, isAnchored, text.substring(0, text.length() / 2), text.substring(text.length() / 2)), due);
        Bench b = new Bench();
        b.x.stream(b.pattern(pattern), isAnchored);
        b.feed(0, text);
        Bench.same(what + " finished", b.x.finish(0), last);
        Bench.same(what + " finished is told", b.x.told(0), last);
    }

    private static void toldStreams() {
        Sentence.says("What it tells is the match of the text so far (an anchored stream takes matches that start at 0 alone) if that would be the same whatever characters came behind it; NONE if there would be none, whatever came; otherwise NOT_YET.");
        Bench.same("nothing so far", streamed("a", false), NOT_YET);
        Bench.same("nothing so far, anchored", streamed("a", true), NOT_YET);
        Bench.same("an empty match", streamed("", false), 0);
        Bench.same("an empty match", streamed("a??", false), 0);
        Bench.same("an empty match so far", streamed("a?", false), NOT_YET);
        Bench.same("an empty match so far", streamed("a*", true), NOT_YET);
        Bench.same("never", streamed("[a&&b]", false), NONE);
        Bench.same("never", streamed("[a&&b]", true), NONE);
        Bench.same("never or empty", streamed("[a&&b]|", false), 0);
        tells("a", false, "b", NOT_YET, NONE);
        tells("a", false, "ba", 1002, 1002);
        tells("a+", false, "ba", NOT_YET, 1002);
        tells("a+", false, "bac", 1002, 1002);
        tells("a+?", false, "baa", 1002, 1002);
        tells("a{1,3}", false, "aa", NOT_YET, 2);
        tells("a{1,3}", false, "aaa", 3, 3);
        tells("ab|a", false, "a", NOT_YET, 1);
        tells("a|ab", false, "a", 1, 1);
        tells("ab|a", false, "ac", 1, 1);
        tells("abc|b", false, "ab", NOT_YET, 1002);
        tells("abc|b", false, "abd", 1002, 1002);
        tells("abc|b", false, "abc", 3, 3);
        tells("a*b|a", false, "aaa", NOT_YET, 1);
        tells("a*b|a", false, "aac", 1, 1);
        tells("a?", false, "a", 1, 1);
        tells("a?", false, "b", 0, 0);
        tells("a[b&&c]|a", false, "a", 1, 1);
        tells("(?:a[b&&c])*d|.", false, "a", 1, 1);
        tells("a(?:[b&&c]|b)", false, "a", NOT_YET, NONE);
        tells("(?s).*", false, "a\n", NOT_YET, 2);
        tells(".*", false, "a\n", 1, 1);
        tells("[^~]*", false, "a~", 1, 1);
        tells("(?s).{20}.{20}.{20}.{20}", false, times("a", 79), NOT_YET, NONE);
        tells("(?s).{20}.{20}.{20}.{20}", false, times("a", 80), 80, 80);
        tells("b", false, times("a", 79) + "b", 79080, 79080);
    }

    private static void anchoredStreams() {
        Sentence.says("(an anchored stream takes matches that start at 0 alone)");
        tells("a", true, "a", 1, 1);
        tells("a", true, "ba", NONE, NONE);
        tells("a", true, "b", NONE, NONE);
        tells("ab", true, "a", NOT_YET, NONE);
        tells("ab", true, "aab", NONE, NONE);
        tells("ab", false, "aab", 1003, 1003);
        tells("a*", true, "b", 0, 0);
        tells("a*b|a", true, "aac", 1, 1);
        tells("a+", true, "aa", NOT_YET, 2);
        tells("b|aa", true, "ab", NONE, NONE);
        tells("b|aa", false, "ab", 1002, 1002);
    }

    private static void finishedStreams() {
        Sentence.says("Of a finished stream it is the match of the text, or NONE.");
        Bench b = new Bench();
        int pattern = b.pattern("a+b|a");
        for (int i = 0; i < 4; i++) {
            b.x.stream(pattern, i == 3);
        }
        Bench.same("finish an empty one", b.x.finish(0), NONE);
        Bench.same("feed", b.feed(1, "caa"), NOT_YET);
        Bench.same("finish", b.x.finish(1), 1002);
        Bench.same("told", b.x.told(1), 1002);
        Bench.same("feed", b.feed(2, "aab"), 3);
        Bench.same("finish", b.x.finish(2), 3);
        Bench.same("feed", b.feed(3, "ca"), NONE);
        Bench.same("finish", b.x.finish(3), NONE);
        Sentence.says("Throws `IllegalStateException` if it is finished");
        for (int i = 0; i < 4; i++) {
            final int stream = i;
            int told = b.x.told(i);
            Bench.fails("finish", STATE, () -> b.x.finish(stream));
            b.draft("a");
            Bench.fails("feed", STATE, () -> b.x.feed(stream));
            Bench.same("told", b.x.told(i), told);
        }
        Bench.same("an empty match", finishedEmpty("a*"), 0);
        Bench.same("an empty match", finishedEmpty(""), 0);
        Bench.same("none", finishedEmpty("a"), NONE);
    }

    private static int finishedEmpty(String pattern) {
        Bench b = new Bench();
        b.x.stream(b.pattern(pattern), false);
        return b.x.finish(0);
    }
}
