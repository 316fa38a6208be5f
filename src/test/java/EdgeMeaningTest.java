/** The edges that "Meaning", "Engines and facts" and "All matches" name, a sentence at a time. */
public final class EdgeMeaningTest {
    private static final Class<IndexOutOfBoundsException> INDEX = IndexOutOfBoundsException.class;
    private static final Class<IllegalStateException> STATE = IllegalStateException.class;
    private static final int FAR = MendBench.TOO_FAR;
    private static final int UNSET = MendBench.UNSET;
    private static final int NOT_TAKEN = MendBench.NOT_TAKEN;
    /** A pattern that takes 997 steps on an empty text; with "\\A" behind it one more each. */
    private static final String MANY = "(?:(?:){19}){20}".repeat(2) + "(?:){20}".repeat(7) + "(?:){7}";

    public static void main(String[] args) {
        characters();
        emptyRows();
        alternatives();
        roundsThatHaveToBe();
        roundsThatMayBe();
        emptyRounds();
        firstWays();
        looksAhead();
        looksBehind();
        groups();
        toldGroups();
        conditions();
        calls();
        deepCalls();
        commits();
        skips();
        verbsInParts();
        deepLooks();
        starts();
        noGroupsAtFirst();
        steps();
        mostSteps();
        mostStepsOfAllStarts();
        engineOne();
        repeatedEmpty();
        sizes();
        engineTwo();
        noSteps();
        leastLengths();
        mostLength();
        empties();
        beginnings();
        literals();
        runaways();
        justOne();
        nextMatches();
        manyPatterns();
        Sentence.end();
    }

    private static String times(String text, int times) {
        return text.repeat(times);
    }

    // ---- ways

    private static void characters() {
        Sentence.says("one way, which ends one place further, if the character there is such a one.");
        for (String one : new String[] {"a", "[a]", "[^b]", ".", "(?s).", "\\w", "\\D", "\\S", "\\W|a"}) {
            Ask.finds(one, "", -1);
            Ask.finds(one, "a", 1);
            Ask.findsFrom(one, "a", 1, -1);
            Ask.findsFrom(one, times("a", 80), 79, 79080);
            Ask.findsFrom(one, times("a", 80), 80, -1);
            Ask.finds("^(?:" + one + ")(?:" + one + ")", "a", -1);
        }
        Ask.finds("[a&&b]", "ab", -1);
    }

    private static void emptyRows() {
        Sentence.says("without items one way that ends there.");
        for (String none : new String[] {"", "()", "(?:)", "(?>)", "(?i)", "(?i:)", "(?:){3}", "a{0}", "(?=)", "(?<=)", "|a", "(?:|a)", "(?(1))()"}) {
            Ask.finds(none, "", 0);
            Ask.finds(none, "a", 0);
            Ask.findsFrom(none, "a", 1, 1001);
        }
    }

    private static void alternatives() {
        Sentence.says("Alternatives: all ways of the first one, then those of the second one, and so on.");
        Ask.finds("a|ab|abc", "abc", 1);
        Ask.finds("abc|ab|a", "abc", 3);
        Ask.finds("|a", "a", 0);
        Ask.finds("a|", "a", 1);
        Ask.finds("x||a", "a", 0);
        Ask.finds("(?:a|ab)$", "ab", 2);
        Ask.finds("(?:a|ab|abc)(?:c|bcd)", "abcd", 4);
        Ask.hasGroup("(a*|b)(a|ab|)$", "aab", 2, 1003);
        Ask.hasGroup("(a??|b)(a|ab)", "aab", 2, 1);
        Sentence.says("the first start at which the pattern has a way, and its first way there, are the match;");
        Ask.finds("b|aa|a", "xaab", 1003);
        Ask.finds("b|a|aa", "xaab", 1002);
        Ask.finds("ab?|b", "bab", 1);
        Ask.finds("$|b", "ab", 1002);
        Ask.finds("$|c", "ab", 2002);
    }

    private static void roundsThatMayBe() {
        Sentence.says("from then on, if it is greedy, first all ways with one more round, as long as that is allowed, and then the one without; if it is reluctant, the other way round.");
        Ask.finds("a{1,3}", "aaaa", 3);
        Ask.finds("a{1,3}?", "aaaa", 1);
        Ask.finds("a{1,3}?$", "aaaa", 1004);
        Ask.finds("^a{1,3}$", "aaaa", -1);
        Ask.finds("^a{1,3}?$", "aaaa", -1);
        Ask.finds("a{2,2}?", "aaa", 2);
        Ask.finds("a{0,0}?", "a", 0);
        Ask.finds("a*", times("a", 80), 80);
        Ask.finds("a*?", times("a", 80), 0);
        Ask.hasGroup("a{1,3}(a*)", "aaaa", 1, 3004);
        Ask.hasGroup("a{1,3}?(a*)", "aaaa", 1, 1004);
        Ask.hasGroup("a*(a{1,2})$", "aaaa", 1, 3004);
        Ask.hasGroup("a*?(a{1,2})$", "aaaa", 1, 2004);
        // A round more goes ahead of another way of the round before it.
        Ask.finds("(?:a|ab){1,2}", "aba", 1);
        Ask.finds("(?:a|ab){1,2}c", "abac", 4);
        Ask.hasGroup("(?:(a|ab)(b?)){1,2}?$", "abab", 1, 2003);
    }

    private static void roundsThatHaveToBe() {
        Sentence.says("First as many rounds as have to be;");
        for (String style : new String[] {"", "?", "+"}) {
            Ask.finds("a{3}" + style, "aa", -1);
            Ask.finds("a{3}" + style, "aaa", 3);
            Ask.finds("a{3,}" + style, "aa", -1);
            Ask.finds("a{3,5}" + style, "aa", -1);
            Ask.finds("a+" + style, "b", -1);
            Ask.finds("a{0,2}" + style + "b", "b", 1);
            Ask.finds("(?:a?){3}" + style, "", 0);
            Ask.finds("(?:a?){3,}" + style, "", 0);
            Ask.finds("a{0}" + style, "a", 0);
        }
        Ask.finds("a{20}", times("a", 19), -1);
        Ask.finds("a{20}", times("a", 21), 20);
        Ask.finds("a{3,5}", times("a", 9), 5);
        Ask.finds("a{3,5}?", times("a", 9), 3);
        Ask.finds("(?:a{20}){4}", times("a", 80), 80);
        Ask.finds("^(?:a{20}){4}", times("a", 79), -1);
    }

    private static void emptyRounds() {
        Sentence.says("Of a repeat without an upper bound, a round beyond those that have to be which ends where it began is no way.");
        Ask.finds("(?:|a)*", "a", 1);
        Ask.finds("(?:|a)*", "", 0);
        Ask.finds("(?:|a)+", "aa", 2);
        Ask.finds("(?:|a){2,}", "aa", 2);
        Ask.finds("(?:|a)*+", "aa", 2);
        Ask.finds("(?:|a)*?b", "aab", 3);
        Ask.finds("(?:a?)*", "aa", 2);
        Ask.finds("(?:\\b)*", "a", 0);
        // With an upper bound such a round is a way.
        Ask.finds("(?:|a){0,3}", "aaa", 0);
        Ask.finds("(?:|a)?", "a", 0);
        Ask.finds("(?:|a){3}", "aaa", 0);
        Ask.finds("(?:|a){2,3}b", "aab", 3);
        // And what its groups would have is not kept.
        Ask.hasGroup("(?:()|a)*", "a", 1, UNSET);
        Ask.hasGroup("(?:()|a)*", "", 1, UNSET);
        Ask.hasGroup("(?:()|a)+", "a", 1, 0);
        Ask.hasGroup("(?:()|a){2,}", "a", 1, 0);
        Ask.hasGroup("(?:()|a){0,2}", "a", 1, 0);
        Ask.hasGroup("(?:()|a)*+", "a", 1, UNSET);
        // All rounds that have to be may be empty, and those behind them as long as they end further.
        Ask.hasGroup("(a?){3,}", "aaaa", 1, 3004);
        Ask.hasGroup("(a?){3,}", "aa", 1, 2002);
        Ask.hasGroup("(a?){2,}", "aa", 1, 1002);
        Ask.hasGroup("(a?)*", "aa", 1, 1002);
    }

    private static void firstWays() {
        Sentence.says("An atomic part: the first way of its pattern alone. A possessive repeat: the first way of the greedy one alone.");
        Ask.finds("(?>a|ab)c", "abc", -1);
        Ask.finds("(?>ab|a)c", "abc", 3);
        Ask.finds("(?>)a", "a", 1);
        Ask.finds("(?>a??)b", "ab", 1002);
        Ask.finds("(?>a*)a", "aa", -1);
        Ask.finds("a*+a", "aa", -1);
        Ask.finds("a{1,2}+a", "aa", -1);
        Ask.finds("a{1,2}+a", "aaa", 3);
        Ask.finds("a?+a", "aa", 2);
        Ask.finds("a?+a", "a", -1);
        Ask.finds("(?:a|ab){2}+c", "aabc", -1);
        Ask.finds("(?:ab|a){2}+c", "aabc", 4);
        Ask.hasGroup("(?>(a)|b)*", "ab", 1, 1);
        // What lies ahead of the part is tried otherwise all the same.
        Ask.finds("a*(?>a)b", "aab", 3);
        Ask.finds("a*a++b", "aab", 3);
    }

    private static void looksAhead() {
        Sentence.says("A look ahead: the first way of its pattern, but it ends where it began, with what the groups have by that way; for nothing: one way, with the groups as they were, if its pattern has none.");
        Ask.finds("(?=)", "", 0);
        Ask.finds("(?!)", "", -1);
        Ask.finds("a(?=)", "a", 1);
        Ask.finds("(?=a)", "", -1);
        Ask.finds("(?!a)", "", 0);
        Ask.finds("a(?=a)", "a", -1);
        Ask.finds("a(?!a)", "a", 1);
        Ask.finds("(?=a)a", "a", 1);
        Ask.finds("(?=a*)a", "aa", 1);
        Ask.findsFrom("(?=a)", "a", 1, -1);
        Ask.findsFrom("(?!.)", "a", 1, 1001);
        Ask.finds("(?=a|ab)ab(?<=ab)", "ab", 2);
        Ask.hasGroup("(?=(a*))a", "aa", 1, 2);
        Ask.hasGroup("(?=(a)|ab)a", "ab", 1, 1);
        Ask.finds("(?=(a|ab))\\1c", "abc", -1);
        Ask.hasGroup("(?!(a)b)a", "a", 1, UNSET);
        Ask.hasGroup("(?!(?!(a)))a", "a", 1, UNSET);
        Ask.hasGroup("(a)(?!(b))", "ac", 2, UNSET);
        Ask.hasGroup("(a)(?!\\1)", "ab", 1, 1);
    }

    private static void looksBehind() {
        Sentence.says("A look behind: its pattern is begun at the place, then one place ahead of that, and so on to 0; the first way found so that ends at the place, which ends there with what the groups have by that way; for nothing likewise.");
        Ask.finds("(?<=)", "", 0);
        Ask.finds("(?<!)", "", -1);
        Ask.finds("(?<=a)", "", -1);
        Ask.finds("(?<!a)", "", 0);
        Ask.finds("(?<=a)", "a", 1001);
        Ask.finds("(?<!a)", "a", 0);
        Ask.findsFrom("(?<!a)", "a", 1, -1);
        Ask.finds("(?<=a)b", "ab", 1002);
        Ask.findsFrom("(?<=a)b", "ab", 1, 1002);
        Ask.finds("(?<=^)", "a", 0);
        Ask.findsFrom("(?<=^)", "a", 1, -1);
        // It goes back over a whole text, to 0 and no further.
        String all = times("a", 80);
        Ask.findsFrom("(?<=^a{20}a{20}a{20}a{20})", all, 80, 80080);
        Ask.findsFrom("(?<=^a{20}a{20}a{20}a{19})", all, 80, -1);
        Ask.findsFrom("(?<!^a{20}a{20}a{20}a{20})", all, 80, -1);
        Ask.takesFrom("(?<=b)", "aa", 2, 3 * 2);
        Ask.takesFrom("(?<=b)", "", 0, 2);
        // The nearest place goes first, and of it the first way that ends at the place.
        Ask.hasGroup("(?<=(a*))b", "aab", 1, 2002);
        Ask.hasGroup("(?<=(a+))b", "aab", 1, 1002);
        Ask.hasGroup("(?<=(a|aa))b", "aab", 1, 1002);
        Ask.hasGroup("(?<=(a(?=b)|aa))b", "aab", 1, 1002);
        Ask.hasGroup("(?<=^(a+))b", "aab", 1, 2);
        Ask.hasGroup("(?<!(b))a", "a", 1, UNSET);
        Ask.hasGroup("(?<!(?<!(b)))a", "ba", 1, UNSET);
        // A way that ends at another place is none.
        Ask.findsFrom("(?<=ab)", "abc", 3, -1);
        Ask.finds("(?<=abc)c", "abc", -1);
        Ask.finds("(?<=a.|.)c", "abc", 2003);
    }

    private static void groups() {
        Sentence.says("A group: the ways of its pattern, each with the group having the text from where it began to where it ends.");
        Ask.hasGroup("()", "", 1, 0);
        Ask.hasGroup("a()", "a", 1, 1001);
        Ask.hasGroup("(a)", "a", 1, 1);
        Ask.hasGroup("(" + times(".", 80) + ")", times("a", 80), 1, 80);
        Ask.hasGroup("(a)+", "aaa", 1, 2003);
        Ask.hasGroup("(a)*", "", 1, UNSET);
        Ask.hasGroup("(a){0}", "a", 1, UNSET);
        Ask.hasGroup("(a)|b", "b", 1, UNSET);
        Ask.hasGroup("(?:(a)|b)+", "ab", 1, 1);
        Ask.hasGroup("(a|ab)$", "ab", 1, 2);
        // What was given up in going back is no more had.
        Ask.hasGroup("(?:(a)b|ac)", "ac", 1, UNSET);
        Ask.hasGroup("(a)*?$|a(b)", "ab", 1, UNSET);
        Ask.hasGroup("(a)*ab", "aab", 1, 1);
        Ask.hasGroup("(a)*b", "b", 1, UNSET);
    }

    private static void toldGroups() {
        Sentence.says("What a group has: one way, past that text, if it stands there; none if the group has nothing (an empty text is something).");
        Ask.finds("()\\1", "", 0);
        Ask.finds("()\\1a", "a", 1);
        Ask.finds("(a)\\1", "aa", 2);
        Ask.finds("(a)\\1", "ab", -1);
        Ask.finds("(a)\\1", "a", -1);
        Ask.finds("(ab)\\1", "aba", -1);
        Ask.finds("(ab)\\1", "abab", 4);
        Ask.finds("(a(b)c)\\1", "abcabc", 6);
        Ask.finds("(a(b)c)\\1", "abcbc", -1);
        Ask.finds("x(a(b)c)\\2\\1", "xabcbabc", 8);
        Ask.finds("(" + times(".", 40) + ")\\1", times("ab", 40), 80);
        Ask.finds("(a)?\\1", "", -1);
        Ask.finds("(a)?\\1", "b", -1);
        Ask.finds("\\1(a)", "a", -1);
        Ask.finds("(a\\1)", "aa", -1);
        Ask.finds("(a|\\1b)+$", "aab", 3);
        Ask.finds("(?:\\1|b)()", "b", 1);
        Ask.finds("(a*)\\1$", "aaaa", 4);
        Ask.finds("(?!(a))\\1", "b", -1);
    }

    private static void conditions() {
        Sentence.says("A condition: the ways of the row that it takes.");
        Ask.finds("()(?(1)a|b)", "a", 1);
        Ask.finds("()(?(1)a|b)", "b", -1);
        Ask.finds("(?(1)a|b)()", "b", 1);
        Ask.finds("(?(1)a|b)()", "a", -1);
        Ask.finds("(?(1)a)()", "a", 0);
        Ask.finds("(x)?(?(1)a|b*)b", "bb", 2);
        Ask.finds("(x)?(?(1)a|)", "a", 0);
        Ask.finds("(x)?(?(1)|a)", "x", 1);
        // The other row is not tried when this one has no way.
        Ask.finds("^(x)?(?(1)y|x)", "xx", 1);
        Ask.finds("^(x)(?(1)y|x)", "xx", -1);
        Ask.finds("((?(1)a|b))+", "ba", 2);
    }

    private static void calls() {
        Sentence.says("(the group itself does not come to have something by that), each with the groups as they were ahead of the call.");
        Ask.hasGroup("(?1)(a)", "aa", 1, 1002);
        Ask.hasGroup("(?1)|(a)", "a", 1, UNSET);
        Ask.hasGroup("(a)(?1)", "aa", 1, 1);
        Ask.hasGroup("(a(b))(?1)", "abab", 2, 1002);
        Ask.hasGroup("(?1)|((a))", "a", 2, UNSET);
        Ask.finds("(?1)\\1(a)", "aaa", -1);
        Ask.finds("(?1)(?(1)x|a)(a)", "aaa", 3);
        // Within the call the groups begin with what they have ahead of it.
        Ask.finds("(a)(?2)|(\\1b)", "aab", 3);
        Ask.finds("(?2)|()(\\1b)", "b", 1);
        Ask.finds("(a)(?3)()|(\\2b)", "ab", -1);
        // All ways of the group are tried, and a call of an empty one has a way.
        Ask.finds("(a|ab)(?1)c", "aabc", 4);
        Ask.finds("()(?1)", "", 0);
        Ask.finds("a|b(?0)", "bba", 3);
        Ask.finds("(?1){3}(a|)", "aa", 2);
    }

    private static void deepCalls() {
        Sentence.says("A call within 20 calls that are not ended has no way.");
        for (int n = 18; n <= 24; n++) {
            // The group stands there once itself, and by 20 calls.
            boolean is = n <= 21;
            String text = times("a", n) + times("b", n);
            Ask.finds("^(a(?1)?b)$", text.length() <= 80 ? text : "", is ? 2 * n : -1);
            Ask.finds("^(a(?:(?1)|b))$", times("a", n) + "b", is ? n + 1 : -1);
            Ask.finds("^(?:a(?:(?0)|b)$|a(?:(?0)|b))", "", -1);
            // By way of two groups that call one another.
            Ask.finds("^(a(?:(?2)|c)|)(b(?1)){0}$", times("ab", n / 2) + (n % 2 > 0 ? "ac" : ""), is ? n + n % 2 : -1);
        }
        Ask.finds("(?0)", "", -1);
        Ask.finds("(?0)|a", "a", 1);
        Ask.finds("((?1))", "a", -1);
        Ask.finds("((?1)|a)", "a", 1);
        Ask.takes("(?0)", "", 21);
        Ask.takes("(?0)", "a", 42);
        // Calls that are ended do not count, also within others.
        Ask.finds("(?1){20}(?1){20}(a)", times("a", 41), 41);
        Ask.finds("(?2)()((?3){20}(?3){20})(a){0}", times("a", 80), 80);
        // A look within does not begin to count anew.
        Ask.finds("^(a(?:(?=(?1))|b))", times("a", 21) + "b", 1);
        Ask.finds("^(a(?:(?=(?1))|b))", times("a", 22) + "b", -1);
    }

    private static void commits() {
        Sentence.says("But when it turns out that no way goes on from there to the end of the pattern, the search has no match for (*C);");
        Ask.finds("(*C)", "", 0);
        Ask.finds("(*C)a", "ba", -1);
        Ask.finds("a(*C)b|a", "ac", -1);
        Ask.finds("a(*C)b|a", "ab", 2);
        Ask.finds("a(*C)b", "aab", -1);
        Ask.findsFrom("a(*C)b", "aab", 1, 1003);
        Ask.finds("a(*C)b|c", "cab", 1);
        Ask.finds("a(*C)b|c", "xab", 1003);
        Ask.finds("a(*C)(?:b|c)", "ac", 2);
        Ask.finds("a+(*C)a", "aa", -1);
        Ask.finds("(?:a(*C)|b)*c", "bac", 3);
        Ask.finds("(?:a(*C)|b)*c", "babx", -1);
        Ask.finds("(a(*C)){0}(?1)b|a", "ac", -1);
        Bench b = new Bench();
        int number = b.pattern("a(*C)b|c");
        b.fill(0, "ccabcacc");
        Bench.same("matches up to it", b.x.matches(number, 0), 4);
        Bench.same("the last one", b.x.match(number, 0, 3), 4005);
        Bench.fails("none behind it", INDEX, () -> b.x.match(number, 0, 4));
        Bench.same("back", b.x.back(number, 0, 7), 7008);
        Bench.same("back from it", b.x.back(number, 0, 5), -1);
    }

    private static void skips() {
        Sentence.says("for (*S) it goes on with the place of the verb as the next start, if that is behind the start, otherwise with the next place; and nothing else is tried of what would come behind in order.");
        Ask.finds("aa(*S)b|a", "aaac", 2003);
        Ask.finds("aa(*S)b|ac", "aaac", 2004);
        Ask.finds("aa(*S)b|aaa", "aaac", -1);
        Ask.finds("(*S)b|a", "aab", 2003);
        Ask.finds("(?=aa)(*S)b|a", "aac", 1002);
        Ask.finds("a*(*S)b|", "aaa", -1);
        Ask.finds("a*(*S)b|$", "aaa", -1);
        Ask.finds("a+(*S)b|", "aaa", 3003);
        Ask.finds("a(*S)a(*S)b|.", "aac", 2003);
        Ask.finds("a(*S)(?:b|c)", "ac", 2);
        // Two repeats, the verb and "b" at the end; then from there the first repeat alone: no start between is tried.
        Ask.takes("a{20}a{20}(*S)b", times("a", 40), 41 + 41 + 1 + 1 + 3);
        Bench b = new Bench();
        int number = b.pattern("a(*S)b|.");
        b.fill(0, "acab");
        Bench.same("matches", b.x.matches(number, 0), 2);
        Bench.same("the first one is behind what is skipped", b.x.match(number, 0, 0), 1002);
        Bench.same("the next one", b.x.match(number, 0, 1), 2004);
    }

    private static void verbsInParts() {
        Sentence.says("Within a look, an atomic part or a possessive repeat this leaves that part (a look behind for all places) without a way, or a look for nothing with one; nothing else.");
        for (String verb : new String[] {"(*C)", "(*S)"}) {
            Ask.finds("(?=a" + verb + "b|a)a|a", "a", 1);
            Ask.finds("(?=a" + verb + "b|a)a", "a", -1);
            Ask.finds("(?!a" + verb + "b|a)a", "a", 1);
            Ask.finds("(?>a" + verb + "b|a)", "a", -1);
            Ask.finds("(?>a" + verb + "b|a)|a", "a", 1);
            // The possessive repeat is left without that of no round, too.
            Ask.finds("(?:a" + verb + "b|a)?+a|x", "ax", 1002);
            Ask.finds("(?:a" + verb + "b|a)*+|a", "a", 1);
            Ask.finds("(?<=b|" + verb + "x|ab)c", "abc", -1);
            Ask.finds("(?<=b|x|ab)c", "abc", 2003);
            Ask.finds("(?<!b|" + verb + "x|ab)c", "abc", 2003);
            Ask.finds("(?<=" + verb + "b)c|c", "abc", 2003);
            // The search goes on with all other starts, and what is around the part with all else.
            Ask.finds("(?>a" + verb + "b)|x", "aax", 2003);
            Ask.finds("a(?>a" + verb + "b|a)|aa", "aa", 2);
            Ask.finds("(?:a|ab)(?=c" + verb + "d|[^b])|abc", "abcx", 3);
            // A verb of an inner part is nothing to the outer one.
            Ask.finds("(?>(?>a" + verb + "b)|a)", "a", 1);
            Ask.finds("(?=(?!" + verb + "b)a)a", "a", 1);
            // When the part has ended it is nothing any more.
            Ask.finds("(?>a" + verb + ")b|a", "ac", 1);
            Ask.finds("(?=a" + verb + ")b|a", "ac", 1);
            Ask.finds("(?:a" + verb + ")++b|a", "ac", 1);
            Ask.finds("(?<=a" + verb + ")b|c", "ac", 1002);
            Ask.finds("(?!a" + verb + ")a|a", "ac", 1);
        }
    }

    /** A pattern within so many atomic parts. */
    private static int within(Bench b, int levels, String inner) {
        b.part('i', inner);
        b.part('h', times("(?>", levels / 2) + "(?&i)" + times(")", levels / 2));
        return b.pattern(times("(?>", levels - levels / 2) + "(?&h)" + times(")", levels - levels / 2));
    }

    private static void deepLooks() {
        Sentence.says("A look, atomic part or possessive repeat that is begun within 40 such that are not ended has no way, whatever it is.");
        String[] inners = {"(?=)", "(?!a)", "(?<=)", "(?<!a)", "(?>)", "(?:){1}+", "a*+"};
        for (String inner : inners) {
            for (int levels = 38; levels <= 41; levels++) {
                Bench b = new Bench();
                int number = within(b, levels, inner);
                int found = levels <= 39 ? 0 : -1;
                Bench.same(inner + " within " + levels, b.x.find(number, 0, 0, 0), found);
                Bench.same(inner + " within " + levels, b.x.anew(number, 0, 0, 0), found);
                Bench.same(inner + " within " + levels, b.x.back(number, 0, 0), found);
            }
            Bench other = new Bench();
            int number = within(other, 40, inner + "|b");
            other.fill(0, "b");
            Bench.same("what stands beside " + inner, other.x.find(number, 0, 0, 0), 1);
            // Those that are ended do not count.
            Bench ended = new Bench();
            int last = within(ended, 39, "(?:(?=)){20}(?:(?>)){20}(?<=)(?!a)" + inner);
            Bench.same("behind ended ones", ended.x.find(last, 0, 0, 0), 0);
        }
        // Calls, groups and repeats around are no such ones.
        Bench b = new Bench();
        int number = within(b, 39, "(?:(?:((?=))){2}|x(?1))");
        Bench.same("within others, too", b.x.find(number, 0, 0, 0), 0);
        int called = b.pattern("((?=(?:(?1)|)))");
        Bench.same("by calls 20 and one", b.x.find(called, 0, 0, 0), 0);
        int twice = b.pattern("((?=(?=(?:(?1)|b))))|c");
        b.fill(0, "c");
        Bench.same("by calls 40 and two", b.x.find(twice, 0, 0, 0), 1);
    }

    // ---- searches

    private static void starts() {
        Sentence.says("A search from a place tries that place as the start, then the next one, and so on up to the end of the text:");
        Ask.finds("", "", 0);
        Ask.finds("$", "aaa", 3003);
        Ask.finds("(?!.)", "aaa", 3003);
        Ask.finds("b", "aab", 2003);
        Ask.findsFrom("a", "aba", 0, 1);
        Ask.findsFrom("a", "aba", 1, 2003);
        Ask.findsFrom("a", "aba", 2, 2003);
        Ask.findsFrom("a", "aba", 3, -1);
        Ask.findsFrom("a*", "aba", 3, 3003);
        Ask.findsFrom("", times("a", 80), 80, 80080);
        Ask.findsFrom("b", times("a", 79) + "b", 79, 79080);
        Ask.takes("b", times("a", 80), 81);
        Ask.takesFrom("b", times("a", 80), 79, 2);
        Ask.takesFrom("b", times("a", 80), 80, 1);
        Ask.takes("a", times("a", 80), 1);
        // What lies ahead of the place is there for looks, boundaries and ends.
        Ask.findsFrom("(?<=a)b", "ab", 1, 1002);
        Ask.findsFrom("^b", "ab", 1, -1);
        Ask.findsFrom("\\bb", "ab", 1, -1);
    }

    private static void noGroupsAtFirst() {
        Sentence.says("in the beginning no group has something.");
        Ask.finds("(?:(a)y|(?(1)b|c))", "ab c", 3004);
        Ask.finds("(?:(a)y|\\1.)", "ab", -1);
        Bench b = new Bench();
        int number = b.pattern("(a)|(?(1)x|b)");
        b.fill(0, "a");
        b.fill(1, "xb");
        Bench.same("the group has something", b.x.find(number, 0, 0, 1), 1);
        Bench.same("the next search begins without", b.x.find(number, 1, 0, 0), 1002);
        Bench.same("the next search begins without", b.x.find(number, 1, 0, 1), UNSET);
        Bench.same("back", b.x.back(number, 1, 1), 1002);
        b.fill(2, "aab");
        Bench.same("matches", b.x.matches(number, 2), 3);
        int threads = b.pattern("(a)|(b)");
        b.fill(0, "ab");
        Bench.same("by 1", b.x.by(1, threads, 0, 0, 1), 1);
        Bench.same("by 1 without", b.x.by(1, threads, 0, 1, 1), UNSET);
        Bench.same("by 1 with the other", b.x.by(1, threads, 0, 1, 2), 1002);
    }

    private static void steps() {
        Sentence.says("A step is each time a character, class, \".\", end, boundary, or what a group has, is tried (at the end of the text, too),");
        for (String one : new String[] {"b", "[b]", "[^a]", "\\d", "\\n", "\\b", "(?:b)", "(b)", "[a&&b]", "(?i:b)"}) {
            Ask.takes(one, "", 1);
        }
        for (String one : new String[] {".", "^", "$", "\\A", "\\z", "\\B", "(?m)^", "(?m)$"}) {
            Ask.takes(one, "", 1);
        }
        Ask.takes("a", "a", 1);
        Ask.takes("a", "b", 2);
        Ask.takes("abc", "abc", 3);
        Ask.takes("abc", "abx", 3 + 1 + 1 + 1);
        Ask.takes("a\\b\\b", "a", 3);
        Ask.takes("()\\1", "", 1);
        Ask.takes("\\1()", "", 1);
        Ask.takes("(a)\\1", "aa", 2);
        Ask.takes("(aaa)\\1", "aaaaaa", 4);
        Ask.takes("(a)\\1", "a", 3);
        Sentence.says("a condition or verb is met,");
        Ask.takes("(?(1)a)()", "", 1);
        Ask.takes("()(?(1)a|b)", "a", 2);
        Ask.takes("(?(1)a|b)()", "b", 2);
        Ask.takes("(*F)", "", 1);
        Ask.takes("(*F)", "aa", 3);
        Ask.takes("(*C)", "", 1);
        Ask.takes("(*S)", "", 1);
        Ask.takes("(*C)a", "b", 2);
        Sentence.says("an alternative of several is begun,");
        Ask.takes("a|b", "a", 2);
        Ask.takes("a|b", "b", 4);
        Ask.takes("|", "", 1);
        Ask.takes("a|", "", 3);
        Ask.takes("a||", "", 3);
        Ask.takes("(a|b)", "b", 4);
        Ask.takes("(a)", "a", 1);
        Ask.takes("()", "", 0);
        Ask.takes("(?(1)|)()", "", 1);
        Sentence.says("a repeat is begun (a possessive one both by itself and as the greedy one), a round is begun,");
        Ask.takes("a{0}", "", 1);
        Ask.takes("a{0}?", "", 1);
        Ask.takes("a{0}+", "", 2);
        Ask.takes("a*", "", 3);
        Ask.takes("a*?", "", 1);
        Ask.takes("a*+", "", 4);
        Ask.takes("a?", "a", 3);
        Ask.takes("a{2}", "aa", 5);
        Ask.takes("a*", "aa", 1 + 2 + 2 + 2);
        Ask.takes("(?:){20}", "", 21);
        Ask.takes("(?:)*", "", 2);
        Ask.takes("(?:)+", "", 3);
        Sentence.says("an atomic part, possessive repeat or look ahead is begun, a look behind is begun at a place, or a call is begun;");
        Ask.takes("(?>)", "", 1);
        Ask.takes("(?>a)", "a", 2);
        Ask.takes("(?=)", "", 1);
        Ask.takes("(?!a)", "", 2);
        Ask.takes("(?<=)", "", 1);
        Ask.takes("(?<=)", "aa", 1);
        Ask.takesFrom("(?<=a)", "aa", 2, 2 + 2);
        Ask.takesFrom("(?<!b)", "aa", 2, 2 + 2 + 2);
        Ask.takesFrom("(?<=^)", "aa", 2, 2 + 2 + 2);
        Ask.takes("(?1)()", "", 1);
        Ask.takes("(?1)(a)", "aa", 3);
        Sentence.says("a part, look or call that is too deep is one step as well.");
        Ask.takes("(?0)", "", 21);
        for (String inner : new String[] {"(?=)", "(?!)", "(?<=)", "(?<!)", "(?>)", "a*+", "(?<=aa)"}) {
            Bench b = new Bench();
            int number = within(b, 40, inner);
            b.fill(0, "aa");
            Bench.same("at 0, 1 and 2 " + inner, b.x.steps(number, 0, 0), 3 * 41);
            Bench.same("at 2 alone " + inner, b.x.steps(number, 0, 2), 41);
        }
    }

    private static void mostSteps() {
        Sentence.says("A search in which a 1001st step would come is TOO_FAR.");
        for (int more = 0; more <= 5; more++) {
            int steps = 997 + more;
            boolean isFar = steps > 1000;
            Bench b = new Bench();
            int number = b.pattern(MANY + times("\\A", more));
            Bench.same("steps", b.x.steps(number, 0, 0), isFar ? FAR : steps);
            Bench.same("find", b.x.find(number, 0, 0, 0), isFar ? FAR : 0);
            Bench.same("anew", b.x.anew(number, 0, 0, 0), isFar ? FAR : 0);
            Bench.same("by 0", b.x.by(0, number, 0, 0, 0), isFar ? FAR : 0);
            Bench.same("back", b.x.back(number, 0, 0), isFar ? FAR : 0);
            Bench.same("matches", b.x.matches(number, 0), isFar ? FAR : 1);
            if (isFar) {
                Bench.fails("match", INDEX, () -> b.x.match(number, 0, 0));
            } else {
                Bench.same("match", b.x.match(number, 0, 0), 0);
            }
            replaced(b, number, isFar);
            // A search without a match is too far, too, by the step that would come last.
            Bench none = new Bench();
            int last = none.pattern(MANY + times("\\A", Math.max(0, more - 1)) + (more > 0 ? "x" : ""));
            Bench.same("without a match", none.x.find(last, 0, 0, 0), isFar ? FAR : more > 0 ? -1 : 0);
        }
    }

    private static void replaced(Bench b, int number, boolean isFar) {
        int template = b.template("x");
        if (isFar) {
            Bench.fails("replace", STATE, () -> b.x.replace(number, template, 0, 1));
            Bench.same("size", b.x.size(0), 0);
        } else {
            Bench.same("replace", b.x.replace(number, template, 0, 1), 1);
            Bench.same("size", b.x.size(0), 1);
        }
    }

    private static void mostStepsOfAllStarts() {
        Sentence.says("Returns the steps of all starts that are tried, 0 to 1000, or TOO_FAR.");
        Ask.takes("", "", 0);
        Ask.takes("()", "aa", 0);
        // Each of the starts 0 to 75 takes 12 steps, those behind them fewer, down to three at the end.
        Ask.takes("[ab]{5}c", times("a", 80), 76 * 12 + 11 + 9 + 7 + 5 + 3);
        Ask.takes("b" + MANY, "a", 2);
        Ask.takes("x|" + MANY, "", 1000);
        Ask.takes("x|" + MANY + "\\A", "", FAR);
        // A start that takes many steps, and one more that would take the next one.
        Ask.takes(MANY + "\\A\\A\\A", "a", 1000);
        Ask.takes(MANY + "\\A\\z", "a", FAR);
        Ask.takesFrom(MANY + "\\b\\z", "a", 1, 999);
        Bench b = new Bench();
        int number = b.pattern(MANY + "\\A\\Ab");
        b.fill(0, "a");
        b.fill(1, "ba");
        Bench.same("the first start leaves none for the next one", b.x.find(number, 0, 0, 0), FAR);
        Bench.same("but has a match itself", b.x.find(number, 1, 0, 0), 1);
        Bench.same("from the end", b.x.find(number, 0, 1, 0), -1);
        Bench.same("back over two starts", b.x.back(number, 0, 1), FAR);
        Bench.same("back over one", b.x.back(number, 0, 0), -1);
    }

    // ---- engines and facts

    private static void engineOne() {
        Sentence.says("takes such as have no other nodes than characters, classes, \".\", ends and boundaries, groups (also switches with a pattern, \"(?:\" and parts that are included), alternatives, and greedy and reluctant repeats,");
        for (String is : new String[] {"", "a", "[a]", ".", "\\d", "\\n", "\\.", "()", "(a)", "(?<x>a)", "(?:a)", "(?i:a)", "(?i)", "a|b", "|", "a?", "a*", "a+",
            "a{2}", "a{2,}", "a{2,3}", "a??", "a*?", "a+?", "a{2}?", "a{2,}?", "a{2,3}?", "(a|b)*c"}) {
            Ask.isTaken(is, 3);
        }
        for (String end : new String[] {"^", "$", "\\A", "\\z", "\\b", "\\B"}) {
            Ask.isTaken(end, 1);
            Ask.isTaken("(?m)" + end, 1);
            Ask.isTaken("(a|(?:" + end + "))?b", 1);
        }
        for (String other : new String[] {"(?>a)", "a?+", "a*+", "a++", "a{2}+", "a{2,}+", "a{2,3}+", "(?=a)", "(?!a)", "(?<=a)", "(?<!a)", "(a)\\1",
            "(?<x>a)\\k<x>", "(a)(?(1)b)", "(a)(?(1)b|c)", "a(?0)?", "(a)(?1)", "(*F)", "(*C)", "(*S)"}) {
            Ask.isTaken(other, 0);
            Ask.isTaken("a|(?:b" + other + ")?", 0);
            // Also where it is repeated no times.
            Ask.isTaken("a(?:" + other + "){0}", 0);
        }
        Bench b = new Bench();
        b.part('a', "a|b");
        b.part('b', "(?=a)");
        Bench.same("a part", b.x.groups(b.pattern("(?&a)+")), 3);
        Bench.same("a part with a look", b.x.groups(b.pattern("(?&b)")), 0);
    }

    private static void repeatedEmpty() {
        Sentence.says("if no pattern that is repeated without an upper bound can be empty,");
        for (String empty : new String[] {"(?:)", "()", "a?", "a*", "(?:a|)", "(?:|a)", "(a?b?)", "a{0}", "a{0,3}", "(?:a{0}){3}", "\\b", "^", "(?:^$)"}) {
            String atom = "(?:" + empty + ")";
            int bounded = empty.contains("^") || empty.contains("b") && empty.startsWith("\\") ? 1 : 3;
            for (String style : new String[] {"", "?"}) {
                Ask.isTaken(atom + "*" + style, 0);
                Ask.isTaken(atom + "+" + style, 0);
                Ask.isTaken(atom + "{3,}" + style, 0);
                Ask.isTaken(atom + "?" + style, bounded);
                Ask.isTaken(atom + "{3}" + style, bounded);
                Ask.isTaken(atom + "{0,3}" + style, bounded);
                Ask.isTaken("(?:" + empty + "a)*" + style, bounded);
                Ask.isTaken("(?:" + atom + "*){0}" + style, 0);
            }
        }
    }

    /** A pattern of so much in 100 characters and 80 of repeats, and what comes behind these; 20 more are too many. */
    private static void sized(String more, int due) {
        Bench b = new Bench();
        b.part('h', times("h", 100));
        int number = b.pattern("(?&h)b{20}c{20}" + more);
        Bench.same(more + " is read", number, 0);
        if (number == 0) {
            Bench.same("engines with " + more, b.x.groups(number) % 10, due);
            int none = more.contains("|") && more.startsWith("d{9}|") ? 0 : -1;
            Bench.same("by 1 with " + more, b.x.by(1, number, 0, 0, 0), due == 0 ? NOT_TAKEN : none);
        }
    }

    private static void sizes() {
        Sentence.says("and if the size is at most 200.");
        sized("", 3);
        sized("d{10}", 3);
        sized("d{10}e", 0);
        Sentence.says("1 of a character, class, \".\", end or boundary;");
        for (String one : new String[] {"e", "[ef]", ".", "\\d", "\\n", "[^e[f]]"}) {
            sized("d{9}d" + one, 3);
            sized("d{9}de" + one, 0);
        }
        for (String end : new String[] {"^", "$", "\\b", "\\B", "\\A", "\\z"}) {
            sized("d{9}d" + end, 1);
            sized("d{9}de" + end, 0);
        }
        Sentence.says("of a group 2 more than that of its pattern;");
        sized("d{9}()", 3);
        sized("d{9}()e", 0);
        sized("d{8}(ef)", 3);
        sized("d{8}(ef)e", 0);
        sized("d{8}((?<x>))", 3);
        sized("d{8}((?<x>e))", 0);
        Sentence.says("of alternatives the sum, and 2 for each \"|\";");
        sized("d{9}(?:|)", 3);
        sized("d{9}(?:|e)", 0);
        sized("d{8}(?:e|f)", 3);
        sized("d{8}(?:e|fg)", 0);
        sized("d{8}(?:||)", 3);
        sized("d{8}(?:||)e", 0);
        sized("d{9}|", 3);
        sized("d{9}|e", 0);
        Sentence.says("of a repeat with an upper bound m that of its atom and 1, m times;");
        sized("d{9}e?", 3);
        sized("d{9}e?f", 0);
        sized("(?:){20}", 3);
        sized("(?:){20}e", 0);
        sized("(?:ab){6}ef", 3);
        sized("(?:ab){0,6}?efg", 0);
        sized("(?:(?:){4}){4}", 3);
        sized("(?:(?:){4}){4}e", 0);
        sized("d{10}(?:(?:(?:a{20}){20}){20}){0}", 3);
        sized("d{10}(?:(?:(?:a{20}){20}){20}){0}e", 0);
        Sentence.says("of one without, with at least n, that of its atom n + 1 times, and 2;");
        sized("d{8}ae*", 3);
        sized("d{8}abe*", 0);
        sized("d{8}e+", 3);
        sized("d{8}e+a", 0);
        sized("e{17,}", 3);
        sized("e{18,}", 0);
        sized("(?:ab){8,}?", 3);
        sized("(?:ab){8,}?a", 0);
        sized("(?:ab){9,}?", 0);
        Sentence.says("of others that of their pattern.");
        sized("d{10}(?:)", 3);
        sized("d{9}(?:(?i:e))(?s)f", 3);
        sized("d{9}(?:(?i:e))(?s)fg", 0);
        Bench b = new Bench();
        b.part('h', times("h", 100));
        b.part('d', "d{10}");
        Bench.same("a part that is included", b.x.groups(b.pattern("(?&h)b{20}c{20}(?&d)")), 3);
        Bench.same("a part that is included", b.x.groups(b.pattern("(?&h)b{20}c{20}(?&d)e")), 0);
    }

    private static void engineTwo() {
        Sentence.says("The engine 2, an automaton, takes such of these as have neither ends nor boundaries.");
        for (String end : new String[] {"^", "$", "\\A", "\\z", "\\b", "\\B"}) {
            Ask.isTaken(end + "a", 1);
            Ask.isTaken("a" + end, 1);
            Ask.isTaken("(?:" + end + ")?a", 1);
            Ask.isTaken("a(?:" + end + "){0}", 1);
            Ask.isTaken("a|b|" + end, 1);
            Ask.isTaken("(?i:(" + end + "))", 1);
        }
        Ask.isTaken("a\\^\\$[$^]", 3);
    }

    private static void noSteps() {
        Sentence.says("The engines 1 and 2 know no steps; for the rest all tell the same.");
        Bench b = new Bench();
        int far = b.pattern("(?:a+)+c");
        int match = b.pattern("(a|aa)+$");
        int many = b.pattern("(?:a|a|a){20}b|a{18}");
        b.fill(0, times("a", 80));
        b.fill(1, times("a", 79) + "c");
        Bench.same("by 0", b.x.by(0, far, 0, 0, 0), FAR);
        Bench.same("by 1", b.x.by(1, far, 0, 0, 0), -1);
        Bench.same("by 2", b.x.by(2, far, 0, 0, 0), -1);
        Bench.same("by 1", b.x.by(1, far, 1, 0, 0), 80);
        Bench.same("by 2", b.x.by(2, far, 1, 0, 0), 80);
        Bench.same("by 1", b.x.by(1, match, 0, 0, 0), 80);
        Bench.same("by 1", b.x.by(1, match, 0, 0, 1), 79080);
        Bench.same("by 0", b.x.by(0, many, 0, 0, 0), FAR);
        Bench.same("by 1", b.x.by(1, many, 0, 0, 0), 18);
        Bench.same("by 2", b.x.by(2, many, 0, 0, 0), 18);
    }

    private static void leastLengths() {
        Sentence.says("1 of a character, class or \".\"; 0 of ends, boundaries, looks, calls, verbs, and what groups have;");
        for (String one : new String[] {"a", "[a]", ".", "\\d", "[a&&b]", "\\n", "\\."}) {
            Ask.isLeast(one, 1);
        }
        for (String none : new String[] {"^", "$", "\\A", "\\z", "\\b", "\\B", "(?=a)", "(?!a)", "(?<=a)", "(?<!a)", "(?0)", "(*F)", "(*C)", "(*S)", "(?i)"}) {
            Ask.isLeast(none, 0);
            Ask.isLeast("a" + none + "b", 2);
        }
        Ask.isLeast("(ab)\\1", 2);
        Ask.isLeast("(ab)(?1)", 2);
        Sentence.says("of a row the sum, of alternatives and of a condition the least one (0 without a second row), of a repeat that of its atom as many times as rounds have to be; of others that of their pattern;");
        Ask.isLeast("", 0);
        Ask.isLeast("abc", 3);
        Ask.isLeast("abc|ab|abcd", 2);
        Ask.isLeast("abc|", 0);
        Ask.isLeast("|abc", 0);
        Ask.isLeast("(x)(?(1)abc|ab)", 3);
        Ask.isLeast("(x)(?(1)ab|abc)", 3);
        Ask.isLeast("(x)(?(1)abc)", 1);
        Ask.isLeast("(x)(?(1)abc|)", 1);
        Ask.isLeast("(?:ab)?", 0);
        Ask.isLeast("(?:ab)*", 0);
        Ask.isLeast("(?:ab)+", 2);
        Ask.isLeast("(?:ab){0}", 0);
        Ask.isLeast("(?:ab){20}", 40);
        Ask.isLeast("(?:ab){3,}?", 6);
        Ask.isLeast("(?:ab){3,5}+", 6);
        Ask.isLeast("(?:){20}", 0);
        Ask.isLeast("(?>ab)", 2);
        Ask.isLeast("(?i:ab)", 2);
        Ask.isLeast("((?:a)(?<x>b))", 2);
        Ask.isLeast(times("a", 120), 120);
    }

    private static void mostLength() {
        Sentence.says("but never more than 1000000.");
        String below = "(?:(?:(?:(?:(?:a{9}){10}a{9}){10}a{9}){10}a{9}){10}a{9}){10}a{9}";
        Ask.isLeast(below, 999999);
        Ask.isLeast(below + "a", 1000000);
        Ask.isLeast(below + "aa", 1000000);
        String million = "(?:(?:(?:(?:(?:a{10}){10}){10}){10}){10}){10}";
        Ask.isLeast(million, 1000000);
        Ask.isLeast(million + "b", 1000000);
        Ask.isLeast("(?:" + million + "){20}", 1000000);
        Ask.isLeast(million + "|" + million, 1000000);
        Ask.isLeast(million + "|" + below, 999999);
        Ask.isLeast("(?:" + million + "){20}|b", 1);
        Ask.isLeast("(?:" + million + "){0}b", 1);
        // So often that a product would wrap around: 16 times 20 to the power of 14 has 32 noughts at the end in base 2.
        String deep = times("(?:", 14) + "a{16}" + times("){20}", 14);
        Ask.isLeast(deep, 1000000);
        Ask.isTaken(deep, 0);
        Bench b = new Bench();
        Bench.same("a part", b.part('d', deep), 30);
        Bench.same("none or more", b.x.least(b.pattern("(?&d)?b")), 1);
        Bench.same("many in a row", b.x.least(b.pattern("(?&d)(?&d)(?&d)(?&d)")), 1000000);
    }

    private static void empties() {
        Sentence.says("It can be empty if this is 0.");
        for (String empty : new String[] {"", "a?", "a*", "a{0}", "\\b", "(?=a)", "(*F)", "(?0)", "a|", "()"}) {
            Ask.begins(empty, "a-\n~", "a-\n~");
        }
        for (String other : new String[] {"a", "a+", "a{1}", "\\ba", "(?=a)a", "(*F)a", "a|aa"}) {
            Ask.begins(other, "a-\n~", "a");
        }
    }

    private static void beginnings() {
        Sentence.says("a character, class or \".\" if it is such a one; a row if its first item can, or the first can be empty and the rest can;");
        Ask.begins("a", Ask.ALL, "a");
        Ask.begins("[b-d]", Ask.ALL, "bcd");
        Ask.begins(".", "\na~ ", "a~ ");
        Ask.begins("(?s).", "\na~ ", "\na~ ");
        Ask.begins("[a&&b]", Ask.ALL, "");
        Ask.begins("(?i)a", Ask.ALL, "aA");
        Ask.begins("ab", "abc", "a");
        Ask.begins("a?b", "abc", "ab");
        Ask.begins("a?b?c", "abcd", "abc");
        Ask.begins("a?bc?d", "abcd", "ab");
        Ask.begins("()a", "abc", "a");
        Sentence.says("alternatives if one can; a condition if one of its rows can; a repeat if it has an upper bound that is not 0, or none, and its atom can;");
        Ask.begins("a|b", "abc", "ab");
        Ask.begins("(a|b)c", "abc", "ab");
        Ask.begins("(?(1)a|b)(c)", "abc", "ab");
        Ask.begins("(?(1)a)(c)", "abc", "ac");
        Ask.begins("a{0}b", "abc", "b");
        Ask.begins("a{0,0}b", "abc", "b");
        Ask.begins("a{0}+b", "abc", "b");
        Ask.begins("a{0,1}b", "abc", "ab");
        Ask.begins("a{0,}b", "abc", "ab");
        Ask.begins("a*?b", "abc", "ab");
        Ask.begins("a++b", "abc", "a");
        Sentence.says("what a group has and calls always; ends, boundaries, looks and verbs never; others if their pattern can.");
        Ask.begins("\\1(a)", "abc\n", "abc\n");
        Ask.begins("(a)?\\1b", "abc\n", "abc\n");
        Ask.begins("(?1)(a)", "abc\n", "abc\n");
        Ask.begins("(?0)a", "abc\n", "abc\n");
        Ask.begins("a\\1()", "abc\n", "a");
        for (String never : new String[] {"^", "$", "\\A", "\\z", "\\b", "\\B", "(?=b)", "(?!b)", "(?<=b)", "(?<!b)", "(*F)", "(*C)", "(*S)"}) {
            Ask.begins(never + "a", "abc\n", "a");
            Ask.begins("(?:" + never + ")+a", "abc\n", "a");
        }
        Ask.begins("(?>a)b", "abc", "a");
        Ask.begins("(?:a)b", "abc", "a");
        Ask.begins("(?<x>a?)b", "abc", "ab");
    }

    private static void literals() {
        Sentence.says("it is written as a row, in which groups, \"(?:\", switches with a pattern, included parts and atomic parts are replaced by their items as long as they are of one row;");
        Ask.isLiteral("", "");
        Ask.isLiteral("a(b(?:c(?>d(?s:e(?<x>f)))))g", "abcdefg");
        Ask.isLiteral("a()b", "ab");
        Ask.isLiteral("a(|)bc", "bc");
        Ask.isLiteral("a(b|c)", "a");
        Ask.isLiteral("a(b(c|d)e)f", "ab");
        Ask.isLiteral("a(b(c|d)ef)g", "efg");
        Ask.isLiteral("a|b", "");
        Ask.isLiteral("abc|abc", "");
        Ask.isLiteral("(?=ab)", "");
        Ask.isLiteral("(?<=abc)de", "de");
        Ask.isLiteral("()(?(1)abc)d", "d");
        Sentence.says("the longest run of neighbouring items that are characters, classes or \".\" of just one character each, without repeats; of several as long ones the first.");
        Ask.isLiteral("ab.cd", "ab");
        Ask.isLiteral("ab.cde", "cde");
        Ask.isLiteral("ab.cd.ef", "ab");
        Ask.isLiteral("[a][b&&\\w][c--d]", "abc");
        Ask.isLiteral("a[bc]d", "a");
        Ask.isLiteral("a[b&&c]de", "de");
        Ask.isLiteral("(?i)a1-b2", "1-");
        Ask.isLiteral("(?i:1)2", "12");
        Ask.isLiteral("ab{1}c", "a");
        Ask.isLiteral("ab{1}cd", "cd");
        Ask.isLiteral("ab?", "a");
        Ask.isLiteral("(ab)+c", "c");
        Ask.isLiteral("(?:a)++bc", "bc");
        Ask.isLiteral("a++", "");
        Ask.isLiteral("a^bc", "bc");
        Ask.isLiteral("a\\bbc", "bc");
        Ask.isLiteral("(a)\\1b", "a");
        Ask.isLiteral("a(*C)bc", "bc");
        Ask.isLiteral("\\n\\.\\\\", "\n.\\");
        Ask.isLiteral(times("a", 120), times("a", 120));
        Bench b = new Bench();
        b.part('h', times("h", 100));
        int number = b.pattern("(?&h)" + times("i", 49));
        Bench.same("149 characters", b.x.literal(number, 148), 'i');
        Bench.same("at 100", b.x.literal(number, 100), 'i');
        Bench.same("at 99", b.x.literal(number, 99), 'h');
        Bench.same("behind", b.x.literal(number, 149), -1);
    }

    private static void runaways() {
        Sentence.says("there is a greedy or reluctant repeat without an upper bound, not within a look, a possessive repeat or an atomic part, whose atom has another such repeat in it (not within such a part either),");
        for (String outer : new String[] {"*", "+", "*?", "+?", "{2,}", "{20,}?", "{0,}"}) {
            for (String inner : new String[] {"*", "+", "*?", "+?", "{0,}", "{1,}?"}) {
                Ask.runsAway("(?:a" + inner + ")" + outer, 'a');
                Ask.runsAway("x(y(?:b|(a" + inner + "))" + outer + ")z", 'a');
            }
            for (String bounded : new String[] {"?", "{0,20}", "{1}", "??", "++", "*+", "{1,}+"}) {
                Ask.runsAway("(?:a" + bounded + ")" + outer, -1);
            }
            for (String open : new String[] {"(?=", "(?!", "(?<=", "(?<!", "(?>"}) {
                Ask.runsAway("(?:" + open + "a+))" + outer, -1);
                Ask.runsAway("(?:a" + open + "b+))" + outer, -1);
                Ask.runsAway(open + "(?:a+)" + outer + ")", -1);
                Ask.runsAway(open + "(?:a+)" + outer + ")(?:b+)" + outer, 'b');
            }
        }
        for (String bounded : new String[] {"?", "{0,20}", "{20}", "++", "*+", "{2,}+"}) {
            Ask.runsAway("(?:a+)" + bounded, -1);
            Ask.runsAway("(?:(?:a+)+)" + bounded, bounded.endsWith("+") ? -1 : 'a');
        }
        Ask.runsAway("a+a+", -1);
        Ask.runsAway("", -1);
        Sentence.says("if the atom of the inner one can be just c, and the atom of the outer one can be just c by one round of the inner one, all else being empty.");
        Ask.runsAway("(?:(?:ab?)+c?)+", 'a');
        Ask.runsAway("(?:(?:ab)+)+", -1);
        Ask.runsAway("(?:a+b)+", -1);
        Ask.runsAway("(?:ba+)+", -1);
        Ask.runsAway("(?:a+b*)+", 'a');
        Ask.runsAway("(?:ab*)+", -1);
        Ask.runsAway("(?:a?b*)+", 'b');
        Ask.runsAway("(?:a+|bc+)+", 'a');
        Ask.runsAway("(?:ab+|c+)+", 'c');
        Ask.runsAway("(?:c+)+|a", 'c');
        Ask.runsAway("a|(?:c+)+|b", 'c');
        Ask.runsAway("(?:a*b*)*", 'a');
        Ask.runsAway("(?:b*a*)*", 'a');
        Ask.runsAway("(?:[^ -~]*)*", 10);
        Ask.runsAway("(?:[^ -}]*)*", 10);
        Ask.runsAway("(?:[~]*)*", 126);
        Ask.runsAway("(?:[a&&b]*)*", -1);
        Ask.runsAway("(?i)(?:a*)*", 'A');
    }

    private static void justOne() {
        Sentence.says("a row if one of its items can and all others can be empty; alternatives and conditions if one can; a repeat if its atom can, there may be a round, and there has to be no more than one, or its atom can be empty;");
        Ask.runsAway("(?:(?:b?ac?)*)*", 'a');
        Ask.runsAway("(?:(?:bac?)*)*", -1);
        Ask.runsAway("(?:(?:b?)*)*", 'b');
        Ask.runsAway("(?:(?:aa|b)*)*", 'b');
        Ask.runsAway("(x)(?:(?:(?(1)aa|b))*)*", 'b');
        Ask.runsAway("(x)(?:(?:(?(1)b))*)*", 'b');
        Ask.runsAway("(?:(?:a{0})*)*", -1);
        Ask.runsAway("(?:(?:a{0,1})*)*", 'a');
        Ask.runsAway("(?:(?:a{1})*)*", 'a');
        Ask.runsAway("(?:(?:a{2})*)*", -1);
        Ask.runsAway("(?:(?:a{0,9})*)*", 'a');
        Ask.runsAway("(?:(?:a{2,9})*)*", -1);
        Ask.runsAway("(?:(?:(?:a?){2,9})*)*", 'a');
        Ask.runsAway("(?:(?:a++)*)*", 'a');
        Ask.runsAway("(?:(?:a{2}+)*)*", -1);
        // The same of the inner one.
        Ask.runsAway("(?:a{2,})*", -1);
        Ask.runsAway("(?:(?:a?){2,})*", 'a');
        Ask.runsAway("(?:(?:a+){0})*", -1);
        Ask.runsAway("(?:(?:a+){1})*", 'a');
        Ask.runsAway("(?:(?:a+){2})*", -1);
        Ask.runsAway("(?:(?:a*){2})*", 'a');
        Ask.runsAway("(?:(?:a+b?){0,9})*", 'a');
        Sentence.says("By the inner one likewise, where that item counts of which the inner one is, or in which it is.");
        Ask.runsAway("(?:a+b?)+", 'a');
        Ask.runsAway("(?:b?a+)+", 'a');
        Ask.runsAway("(?:b?(?:x|(?:c?a+)?)c*)+", 'a');
        Ask.runsAway("(?:(?:ab*)?c*)+", 'c');
        Ask.runsAway("(?:a(?:b*))+", -1);
        Ask.runsAway("(?:a?(?:b+)d)+", -1);
        Ask.runsAway("(?:a|(?:b+)d)+", -1);
        Ask.runsAway("(?:a|d?(?:b+))+", 'b');
        Sentence.says("what a group has, calls, ends, looks and verbs never; others if their pattern can.");
        Ask.runsAway("(a)(?:(?:\\1)*)*", -1);
        Ask.runsAway("(a)(?:(?:(?1))*)*", -1);
        Ask.runsAway("(?:(?:^)*)*", -1);
        Ask.runsAway("(?:(?:(?=a))*)*", -1);
        Ask.runsAway("(?:(?:(*F))*)*", -1);
        Ask.runsAway("(?:(?:(a))*)*", 'a');
        Ask.runsAway("(?:(?:(?>a))*)*", 'a');
        Ask.runsAway("(?:(?:^\\ba(?=b)(?!c)(*C))*)*", 'a');
        Ask.runsAway("(x)(?:(?:\\1a(?1))*)*", 'a');
    }

    // ---- all matches

    private static void matchesAre(String pattern, String text, int... due) {
        Bench b = new Bench();
        int number = b.pattern(pattern);
        b.fill(2, text);
        Bench.same("matches of '" + pattern + "' in '" + text + "'", b.x.matches(number, 2), due.length);
        for (int i = 0; i < due.length; i++) {
            Bench.same("match " + i + " of '" + pattern + "' in '" + text + "'", b.x.match(number, 2, i), due[i]);
        }
        for (int wrong : new int[] {due.length, due.length + 1, -1, Integer.MAX_VALUE, Integer.MIN_VALUE}) {
            Bench.fails("match " + wrong, INDEX, () -> b.x.match(number, 2, wrong));
        }
    }

    private static void nextMatches() {
        Sentence.says("each further one that of the search from the end of the one before, if that is not empty, otherwise from one place behind its end, if there is such a place. (So an empty match can lie right behind another one.)");
        matchesAre("a", "");
        matchesAre("a", "b");
        matchesAre("a", "a", 1);
        matchesAre("a", "aa", 1, 1002);
        matchesAre("", "", 0);
        matchesAre("", "ab", 0, 1001, 2002);
        matchesAre("a*", "", 0);
        matchesAre("a*", "aa", 2, 2002);
        matchesAre("a*", "aab", 2, 2002, 3003);
        matchesAre("a*", "baac", 0, 1003, 3003, 4004);
        matchesAre("a|", "ab", 1, 1001, 2002);
        matchesAre("$", "ab", 2002);
        matchesAre("^", "ab", 0);
        matchesAre("\\b", "ab", 0, 2002);
        matchesAre("(?<=a)", "aa", 1001, 2002);
        matchesAre("aa", "aaaaa", 2, 2004);
        matchesAre("(?=a)", "aa", 0, 1001);
        int[] all = new int[81];
        int[] signs = new int[80];
        for (int i = 0; i <= 80; i++) {
            all[i] = 1001 * i;
            if (i < 80) {
                signs[i] = 1001 * i + 1;
            }
        }
        matchesAre("", times("a", 80), all);
        matchesAre("a", times("a", 80), signs);
        matchesAre("a*", times("a", 80), 80, 80080);
        Sentence.says("Returns the number; TOO_FAR if one of the searches is.");
        Bench b = new Bench();
        int far = b.pattern("b|(?:a+)+c");
        b.fill(0, "bb");
        b.fill(1, "bb" + times("a", 20));
        b.fill(2, times("a", 20) + "b");
        Bench.same("none is", b.x.matches(far, 0), 2);
        Bench.same("the last one is", b.x.matches(far, 1), FAR);
        Bench.same("the first one is", b.x.matches(far, 2), FAR);
        Bench.same("matches ahead of it", b.x.match(far, 1, 1), 1002);
        Bench.fails("none behind it", INDEX, () -> b.x.match(far, 1, 2));
        Bench.fails("none at all", INDEX, () -> b.x.match(far, 2, 0));
    }

    // ---- several patterns in one bench

    /** All that can be told of a pattern. */
    private static String factsOf(Bench b, int number) {
        StringBuilder facts = new StringBuilder();
        facts.append(b.x.groups(number)).append(' ').append(b.x.least(number)).append(' ').append(b.x.runaway(number)).append(' ');
        for (int i = 0; i < 6; i++) {
            facts.append(b.x.literal(number, i)).append(' ');
        }
        for (char c : "ab-\n".toCharArray()) {
            facts.append(b.x.begins(number, c)).append(' ');
        }
        facts.append(b.x.find(number, 0, 0, 0)).append(' ').append(b.x.by(1, number, 0, 0, 0)).append(' ').append(b.x.steps(number, 0, 0));
        return facts.toString();
    }

    private static void manyPatterns() {
        Sentence.says("(patterns that were read stay as they are)");
        String[] patterns = {"x(?:a(b|c)*d){0}y|-aa", "(?:a+)+(b|c)", "(?:[b-c]+)+(b|c)", "[a-z]\\1(-)", "(?<n>a)\\k<n>", "abcde|(?i)x", "-", "((((b))))", "(?0)|^b", "[a&&b]",
            "(?>a*)(*S)c", "\\bb(?!c)"};
        for (int turn = 0; turn < 2; turn++) {
            Bench all = new Bench();
            all.fill(0, "-aab-abc");
            String[] told = new String[patterns.length];
            for (int i = 0; i < patterns.length; i++) {
                // In their order, and the other way round, with some between that are refused.
                String pattern = patterns[turn == 0 ? i : patterns.length - 1 - i];
                Bench alone = new Bench();
                alone.fill(0, "-aab-abc");
                told[i] = factsOf(alone, alone.pattern(pattern));
                Bench.same("none", i > 0 ? all.pattern("(?<m>a+)b{3}[" + pattern) : -1, -1);
                Bench.same("pattern", all.pattern(pattern), i);
                Bench.same("a part", all.part('p', "x(a|b)+"), 6);
                Bench.same("as alone: " + pattern, factsOf(all, i), told[i]);
            }
            for (int i = 0; i < patterns.length; i += 5) {
                Bench.same("and still: " + i, factsOf(all, i), told[i]);
            }
        }
        Sentence.says("-1 if it is none, and then nothing changes.");
        for (String none : new String[] {times("\\9", 20), times("^", 20) + "(", times("(*F)", 20) + "(", times("(a)", 9) + "(a)", times("a*", 20) + "\\1"}) {
            for (String pattern : new String[] {"", "a", "ab", "abc", "a|b", "(a)", "a+b?", "(?:a+)+"}) {
                Bench alone = new Bench();
                alone.fill(0, "-aab-abc");
                String told = factsOf(alone, alone.pattern(pattern));
                Bench behind = new Bench();
                behind.fill(0, "-aab-abc");
                Bench.same(none, behind.pattern(none), -1);
                Bench.same("behind " + none, factsOf(behind, behind.pattern(pattern)), told);
            }
        }
    }
}
