import java.util.function.Consumer;
import java.util.function.ToIntFunction;

/**
 * The edges that the promises name, one promise behind the other: what a call answers when a thing is empty, full or
 * not there, which exception it throws, and that a call that is refused changes nothing.
 */
public final class EdgeFaceTest {
    private static final Class<IndexOutOfBoundsException> INDEX = IndexOutOfBoundsException.class;
    private static final Class<IllegalArgumentException> ARGUMENT = IllegalArgumentException.class;
    private static final Class<IllegalStateException> STATE = IllegalStateException.class;
    private static final int MIN = Integer.MIN_VALUE;
    private static final int MAX = Integer.MAX_VALUE;
    private static final int NONE = MendBench.NONE;
    private static final int FAR = MendBench.TOO_FAR;
    private static final int UNSET = MendBench.UNSET;
    private static final int NOT_TAKEN = MendBench.NOT_TAKEN;

    public static void main(String[] args) {
        constants();
        newObject();
        typed();
        cleared();
        keptParts();
        readPatterns();
        readTemplates();
        toldGroups();
        toldLeast();
        toldBegins();
        toldLiteral();
        toldRunaway();
        found();
        foundByEngines();
        toldSteps();
        foundBack();
        toldMatches();
        filled();
        sizesAndSigns();
        replaced();
        marked();
        openedAndShut();
        undoneAndRedone();
        recordedAndPlayed();
        streamed();
        firstException();
        outOfRange();
        refusedAnywhere();
        fullOfAll();
        manyCalls();
        Sentence.end();
    }

    private static String times(String text, int times) {
        return text.repeat(times);
    }

    // ---- benches with something in all that they have

    private static void rich(Bench b) {
        b.part('p', "ab|c");
        b.pattern("a");
        b.pattern("(b)(?<x>c)?");
        b.pattern("b|(?:a+)+c");
        b.pattern("a$");
        b.template("x");
        b.template("<$1${x}>");
        b.fill(0, "abcab");
        b.fill(1, "b" + times("a", 20));
        b.x.mark(0, 2, true);
        b.x.mark(1, 3, false);
        b.x.record();
        b.x.replace(1, 1, 0, 1);
        b.x.replace(0, 0, 0, 100);
        b.x.record();
        b.x.undo();
        b.x.undo();
        b.x.stream(0, false);
        b.x.stream(1, true);
        b.x.stream(0, true);
        b.feed(0, "cc");
        b.feed(2, "cc");
        b.x.finish(2);
        b.draft("dr");
    }

    private static void withOpenGroup(Bench b) {
        rich(b);
        b.x.redo();
        b.x.undo();
        b.x.open();
        b.x.replace(0, 1, 0, 1);
    }

    private static void withEmptyGroup(Bench b) {
        rich(b);
        b.x.open();
    }

    private static void recording(Bench b) {
        rich(b);
        b.x.undo();
        b.x.record();
        for (int i = 0; i < 10; i++) {
            b.x.replace(i % 2, i % 2, 2, 1 + i);
        }
    }

    private static void longDraft(Bench b) {
        rich(b);
        b.typed(times("q", 118));
    }

    private static void full(Bench b) {
        rich(b);
        for (int i = 4; i < 12; i++) {
            b.pattern(i % 2 == 0 ? "(a|b)c*" : "b+?");
        }
        for (int i = 2; i < 8; i++) {
            b.template("\\#" + i);
        }
        for (int i = 2; i < 12; i++) {
            b.x.mark(i % 3, 0, i % 2 == 0);
        }
        for (int i = 1; i < 6; i++) {
            b.x.record();
            b.x.replace(i, i, 2, 1);
            b.x.record();
        }
        b.x.stream(11, false);
        b.draft("full");
    }

    /** That a call is refused so, whatever is behind it, and changes nothing. */
    private static void always(String what, Class<? extends RuntimeException> due, ToIntFunction<MendBench> call) {
        Twins.refuse(what + " on a new bench", due, b -> { }, call);
        Twins.refuse(what + " on a rich bench", due, EdgeFaceTest::rich, call);
        Twins.refuse(what + " with an open group", due, EdgeFaceTest::withOpenGroup, call);
        Twins.refuse(what + " while it is recorded", due, EdgeFaceTest::recording, call);
        Twins.refuse(what + " with a long draft", due, EdgeFaceTest::longDraft, call);
        Twins.refuse(what + " when all is full", due, EdgeFaceTest::full, call);
    }

    private static void refused(String what, Class<? extends RuntimeException> due, Consumer<Bench> ahead, ToIntFunction<MendBench> call) {
        Twins.refuse(what, due, ahead, call);
    }

    // ---- promises 1 to 6

    private static void constants() {
        Sentence.says("The constants: `NONE = -1, TOO_FAR = -2, UNSET = -3, NOT_TAKEN = -4, NOT_YET = -5`: What is told in place of a match.");
        int[] due = {-1, -2, -3, -4, -5};
        int[] told = {MendBench.NONE, MendBench.TOO_FAR, MendBench.UNSET, MendBench.NOT_TAKEN, MendBench.NOT_YET};
        for (int i = 0; i < 5; i++) {
            Bench.same("constant " + i, told[i], due[i]);
        }
    }

    private static void newObject() {
        Sentence.says("Creates a bench with an empty draft, empty buffers, and without patterns.");
        Bench.same("the draft", new Bench().x.clear(), 0);
        for (int buffer = 0; buffer < 3; buffer++) {
            Bench.same("size", new Bench().x.size(buffer), 0);
            Bench.same("an empty fill", new Bench().x.fill(buffer), 0);
        }
        refused("a pattern", INDEX, b -> { }, x -> x.groups(0));
        refused("a template", INDEX, b -> b.pattern("a"), x -> x.replace(0, 0, 0, 1));
        refused("a mark", INDEX, b -> { }, x -> x.place(0));
        refused("a macro", INDEX, b -> { }, x -> x.play(0, 0));
        refused("a stream", INDEX, b -> { }, x -> x.told(0));
        refused("a group to undo", STATE, b -> { }, x -> x.undo());
        refused("a group to redo", STATE, b -> { }, x -> x.redo());
        refused("an open group", STATE, b -> { }, x -> x.shut());
        Bench.same("no part", new Bench().pattern("(?&a)"), -1);
        Bench.same("the first pattern", new Bench().x.pattern(), 0);
        Bench.same("the first template", new Bench().x.template(), 0);
        Bench.same("the first mark", new Bench().x.mark(0, 0, true), 0);
        Bench.same("no groups", new Bench().x.open(), 0);
        Bench.same("nothing is recorded", new Bench().x.record(), -1);
        // One bench is nothing to another.
        Bench one = new Bench();
        rich(one);
        Bench.same("the draft of another", new Bench().x.clear(), 0);
        Bench.same("the first pattern of another", new Bench().pattern("a"), 0);
    }

    private static void typed() {
        Sentence.says("`four`: the characters, 8 bits each, the first one in the lowest bits; behind the last one all bits are 0");
        Bench b = new Bench();
        Bench.same("one", b.x.type('a'), 1);
        Bench.same("two", b.x.type('b' | 'c' << 8), 3);
        Bench.same("three", b.x.type('d' | 'e' << 8 | 'f' << 16), 6);
        Bench.same("four", b.x.type('g' | 'h' << 8 | 'i' << 16 | 'j' << 24), 10);
        Bench.same("four of 126", b.x.type(0x7e7e7e7e), 14);
        Bench.same("four of 10", b.x.type(0x0a0a0a0a), 18);
        b.x.fill(0);
        Bench.same("in their order", b.text(0), "abcdefghij~~~~\n\n\n\n");
        Sentence.says("Returns how many the draft has then.");
        Bench counted = new Bench();
        for (int had = 1; had <= 120; had++) {
            Bench.same("type", counted.x.type(had % 2 == 0 ? 10 : 126), had);
        }
        Sentence.says("Throws `IllegalArgumentException` if four tells no character, or others than those of texts");
        int[] wrong = {0, 1, 9, 11, 31, 127, 128, 255, 256, 'a' << 8, 'a' << 16, 'a' << 24, 'a' | 'a' << 16, 'a' | 'a' << 24, 'a' | 'a' << 8 | 'a' << 24,
            'a' | 9 << 8, 'a' | 127 << 8, 'a' | 'a' << 8 | 31 << 16, 'a' | 'a' << 8 | 'a' << 16 | 127 << 24, 'a' | 'a' << 8 | 'a' << 16 | 128 << 24,
            -1, MIN, MAX, 0x80808080, 0x61616100, 0x0a0a0a8a};
        for (int four : wrong) {
            refused("type " + four, ARGUMENT, EdgeFaceTest::rich, x -> x.type(four));
            refused("type " + four + " into a full draft", ARGUMENT, EdgeFaceTest::longDraft, x -> x.type(four));
        }
        Sentence.says("Throws `IllegalStateException` if the draft would have more than 120");
        for (int had = 116; had <= 120; had++) {
            for (int more = 1; more <= 4; more++) {
                String draft = times("a", had);
                int four = Bench.four("bcde".substring(0, more));
                if (had + more > 120) {
                    refused("type " + more + " behind " + had, STATE, some -> some.typed(draft), x -> x.type(four));
                } else {
                    Bench.same("type " + more + " behind " + had, new Bench().typed(draft).x.type(four), had + more);
                }
            }
        }
    }

    private static void cleared() {
        Sentence.says("Returns how many characters it had.");
        Bench.same("none", new Bench().x.clear(), 0);
        Bench.same("one", new Bench().typed("a").x.clear(), 1);
        Bench.same("as many as there can be", new Bench().typed(times("a", 120)).x.clear(), 120);
        Sentence.says("Empties the draft.");
        for (int had : new int[] {0, 1, 4, 119, 120}) {
            Bench b = new Bench().typed(times("a", had));
            Bench.same("clear", b.x.clear(), had);
            Bench.same("clear again", b.x.clear(), 0);
            Bench.same("type", b.x.type('b'), 1);
            Bench.same("nothing is left of it", b.x.pattern(), 0);
            Bench.same("least", b.x.least(0), 1);
            Bench.same("literal", b.x.literal(0, 0), 'b');
        }
    }

    private static void keptParts() {
        Sentence.says("Keeps the draft as a part, in place of one that there may be (patterns that were read stay as they are); the draft is empty then.");
        Bench b = new Bench();
        Bench.same("part", b.part('a', "x"), 1);
        Bench.same("the draft", b.x.clear(), 0);
        int first = b.pattern("(?&a)");
        Bench.same("part", b.part('b', "(?&a)y"), 3);
        int second = b.pattern("(?&b)");
        Bench.same("in its place", b.part('a', ""), 0);
        int third = b.pattern("(?&b)");
        Bench.same("the first one stays", b.x.least(first), 1);
        Bench.same("the second one stays", b.x.least(second), 2);
        Bench.same("what is read then has the new one", b.x.least(third), 1);
        Sentence.says("Returns how many nodes it has as a pattern; -1 if it is none, and then nothing changes.");
        for (String none : new String[] {"(", "a**", "(?&z)", "(?&p)(", "\\1", "[b-a]", "(?&q)"}) {
            for (char letter : new char[] {'p', 'q', 'a', 'z'}) {
                Consumer<Bench> ahead = some -> {
                    rich(some);
                    some.part('q', "(?&p)");
                    some.draft(none);
                };
                boolean isRing = none.equals("(?&q)") && (letter == 'p' || letter == 'q');
                if (!none.equals("(?&q)") || isRing) {
                    Twins.answer("part " + letter + " of " + none, -1, ahead, x -> x.part(letter));
                }
            }
        }
        Bench.same("no nodes", new Bench().part('a', ""), 0);
        Bench.same("120 nodes", new Bench().part('a', times("a", 120)), 120);
        Sentence.says("`letter`: the code of its name, 97 to 122");
        for (int wrong : new int[] {96, 123, 0, -1, -97, 65, 90, 97 + 256, MIN, MAX}) {
            always("part " + wrong, ARGUMENT, x -> x.part(wrong));
        }
        Sentence.says("Throws `IllegalArgumentException` if letter is out of range");
        for (int wrong = 0; wrong < 300; wrong++) {
            final int told = wrong;
            Bench some = new Bench();
            some.draft(wrong % 2 == 0 ? "a" : "(");
            if (wrong < 97 || wrong > 122) {
                Bench.fails("part " + wrong, ARGUMENT, () -> some.x.part(told));
                Bench.same("the draft", some.x.clear(), 1);
            }
        }
        for (int letter = 97; letter <= 122; letter++) {
            Bench.same("part " + letter, new Bench().part((char) letter, "a"), 1);
        }
    }

    private static void readPatterns() {
        Sentence.says("Returns number of the pattern; -1 if it is none, and then nothing changes.");
        for (String none : new String[] {"(", "a**", "(?&z)", "(?&p)(", "\\1", "()()()()()()()()()()", "(?i)(b", "(?<a>)(?<a>)"}) {
            Twins.answer("pattern " + none, -1, b -> {
                rich(b);
                b.draft(none);
            }, x -> x.pattern());
        }
        for (String none : new String[] {"$", "?1{", "\\a"}) {
            Twins.answer("template " + none, -1, b -> {
                rich(b);
                b.draft(none);
            }, x -> x.template());
        }
        Bench b = new Bench();
        Bench.same("none", b.pattern("("), -1);
        Bench.same("the first one", b.pattern("a"), 0);
        Bench.same("the draft", b.x.clear(), 0);
        Bench.same("none", b.pattern(")"), -1);
        Bench.same("the next one", b.pattern("b"), 1);
        Bench.same("the first one is as it was", b.x.literal(0, 0), 'a');
        Sentence.says("Reads the draft as a pattern; the draft is empty then.");
        for (int size : new int[] {0, 1, 119, 120}) {
            Bench some = new Bench().typed(times("a", size));
            Bench.same("pattern", some.x.pattern(), 0);
            Bench.same("the draft", some.x.clear(), 0);
            Bench.same("all of it is read", some.x.least(0), size);
        }
        Sentence.says("Throws `IllegalStateException` if there are 12 patterns");
        for (String draft : new String[] {"", "a", "("}) {
            Consumer<Bench> twelve = some -> {
                full(some);
                some.draft(draft);
            };
            refused("a 13th pattern", STATE, twelve, x -> x.pattern());
        }
        Bench many = new Bench();
        for (int i = 0; i < 12; i++) {
            Bench.same("pattern", many.pattern(times("a", i)), i);
            Bench.same("none", i < 11 ? many.pattern("(") : -1, -1);
        }
        for (int i = 0; i < 12; i++) {
            Bench.same("each is its own", many.x.least(i), i);
        }
        Bench.same("a part can still be kept", many.part('a', "b"), 1);
    }

    private static void readTemplates() {
        Sentence.says("Returns number of the template; -1 if it is none, and then nothing changes.");
        Bench b = new Bench();
        b.pattern("a");
        Bench.same("none", b.template("$"), -1);
        for (int i = 0; i < 8; i++) {
            Bench.same("template", b.template("" + i), i);
            Bench.same("the draft", b.x.clear(), 0);
            Bench.same("none", i < 7 ? b.template("?") : -1, -1);
        }
        for (int i = 0; i < 8; i++) {
            b.fill(0, "a");
            b.x.replace(0, i, 0, 1);
            Bench.same("each is its own", b.text(0), "" + i);
        }
        Sentence.says("Reads the draft as a template; the draft is empty then.");
        for (int size : new int[] {0, 1, 79, 80, 81, 120}) {
            Bench some = new Bench();
            some.pattern("");
            some.typed(times("a", size));
            Bench.same("template", some.x.template(), 0);
            Bench.same("the draft", some.x.clear(), 0);
            if (size <= 80) {
                Bench.same("replace", some.x.replace(0, 0, 0, 1), 1);
                Bench.same("all of it is read", some.text(0), times("a", size));
            } else {
                Bench.fails("replace", STATE, () -> some.x.replace(0, 0, 0, 1));
            }
        }
        Sentence.says("Throws `IllegalStateException` if there are 8 templates");
        for (String draft : new String[] {"", "a", "$"}) {
            refused("a 9th template", STATE, some -> {
                full(some);
                some.draft(draft);
            }, x -> x.template());
        }
    }

    // ---- promises 7 to 11

    private static final int[] NO_PATTERN = {-1, 12, 13, 99, MIN, MAX};

    private static void toldGroups() {
        Sentence.says("Returns 10 * the groups + 1 if the engine 1 takes it + 2 if the engine 2 does.");
        for (int n = 0; n <= 9; n++) {
            Bench b = new Bench();
            Bench.same("both", b.x.groups(b.pattern(times("(a)", n))), 10 * n + 3);
            Bench.same("one", b.x.groups(b.pattern(times("(a)", n) + "$")), 10 * n + 1);
            Bench.same("none", b.x.groups(b.pattern(times("(a)", n) + "(*F)")), 10 * n);
        }
        for (int wrong : NO_PATTERN) {
            always("groups " + wrong, INDEX, x -> x.groups(wrong));
        }
        refused("a pattern that comes next", INDEX, EdgeFaceTest::rich, x -> x.groups(4));
    }

    private static void toldLeast() {
        Sentence.says("Returns the least length of a pattern.");
        Bench.same("least", leastOf(""), 0);
        Bench.same("least", leastOf(times("a", 120)), 120);
        for (int wrong : NO_PATTERN) {
            always("least " + wrong, INDEX, x -> x.least(wrong));
        }
        refused("a pattern that comes next", INDEX, EdgeFaceTest::rich, x -> x.least(4));
    }

    private static int leastOf(String pattern) {
        Bench b = new Bench();
        return b.x.least(b.pattern(pattern));
    }

    private static void toldBegins() {
        Sentence.says("Returns whether a pattern can begin with a character, or be empty.");
        Ask.begins("a", "a\n ~", "a");
        Ask.begins("a?", "a\n ~", "a\n ~");
        Ask.begins("[\\n~]", "a\n ~", "\n~");
        for (int wrong : NO_PATTERN) {
            always("begins " + wrong, INDEX, x -> x.begins(wrong, 'a') ? 1 : 0);
            always("begins " + wrong + " with no character", INDEX, x -> x.begins(wrong, 9) ? 1 : 0);
        }
        Sentence.says("`code`: the code of the character, 10 or 32 to 126");
        for (int code = -3; code < 260; code++) {
            final int told = code;
            Bench b = new Bench();
            b.pattern("a");
            if (code == 10 || code >= 32 && code <= 126) {
                Bench.same("begins " + code, b.x.begins(0, told), told == 'a');
            } else {
                Bench.fails("begins " + code, ARGUMENT, () -> b.x.begins(0, told) ? 1 : 0);
            }
        }
        for (int code : new int[] {9, 11, 31, 127, 10 + 256, 'a' + 65536, MIN, MAX}) {
            refused("begins " + code, ARGUMENT, EdgeFaceTest::rich, x -> x.begins(0, code) ? 1 : 0);
        }
    }

    private static void toldLiteral() {
        Sentence.says("Returns its code, -1 behind the last one.");
        Bench b = new Bench();
        b.pattern("ab.cde");
        b.pattern("");
        int[] due = {'c', 'd', 'e', -1, -1};
        for (int i = 0; i < due.length; i++) {
            Bench.same("literal " + i, b.x.literal(0, i), due[i]);
            Bench.same("literal of nothing", b.x.literal(1, i), -1);
        }
        for (int index : new int[] {119, 120, 150, 160, 1000, MAX}) {
            Bench.same("literal " + index, b.x.literal(0, index), -1);
        }
        Sentence.says("Throws `IllegalArgumentException` if index is below 0");
        for (int index : new int[] {-1, -2, MIN}) {
            refused("literal " + index, ARGUMENT, EdgeFaceTest::rich, x -> x.literal(0, index));
        }
        for (int wrong : NO_PATTERN) {
            always("literal " + wrong, INDEX, x -> x.literal(wrong, 0));
            always("literal " + wrong + " at -1", INDEX, x -> x.literal(wrong, -1));
        }
    }

    private static void toldRunaway() {
        Sentence.says("Returns the lowest code of these, -1 if there is none.");
        Ask.runsAway("(?:[b-d]+)+", 'b');
        Ask.runsAway("(?:[^b]+)+", 10);
        Ask.runsAway("(?:~+)+", '~');
        Ask.runsAway("(?:b+)+|(?:a+)+", 'a');
        Ask.runsAway("b+", -1);
        for (int wrong : NO_PATTERN) {
            always("runaway " + wrong, INDEX, x -> x.runaway(wrong));
        }
    }

    // ---- promises 12 to 18

    private static void found() {
        Sentence.says("Returns 1000 * the start + the end of the match, or of what the group has by it; UNSET if it has nothing; NONE if there is no match; or TOO_FAR.");
        Bench b = new Bench();
        int two = b.pattern("(a)(b)?");
        int far = b.pattern("(x)|(?:a+)+c");
        int nothing = b.pattern("(?!)()");
        b.fill(0, times("c", 79) + "a");
        b.fill(1, times("a", 30));
        int[][] due = {{79080, 79080, UNSET}, {1, 1, UNSET}, {NONE, NONE, NONE}};
        for (int buffer = 0; buffer < 3; buffer++) {
            for (int group = 0; group < 3; group++) {
                Bench.same("find", b.x.find(two, buffer, 0, group), due[buffer][group]);
                Bench.same("anew", b.x.anew(two, buffer, 0, group), due[buffer][group]);
                Bench.same("by 0", b.x.by(0, two, buffer, 0, group), due[buffer][group]);
                Bench.same("by 1", b.x.by(1, two, buffer, 0, group), due[buffer][group]);
            }
        }
        for (int group = 0; group < 2; group++) {
            Bench.same("far", b.x.find(far, 1, 0, group), FAR);
            Bench.same("far", b.x.anew(far, 1, 0, group), FAR);
            Bench.same("far", b.x.by(0, far, 1, 0, group), FAR);
            Bench.same("none", b.x.find(nothing, 1, 0, group), NONE);
            Bench.same("none", b.x.anew(nothing, 1, 0, group), NONE);
        }
        Sentence.says("Throws `IndexOutOfBoundsException` if there is no such pattern, buffer, place or group");
        for (int wrong : new int[] {-1, 99, MIN, MAX}) {
            for (int k = 0; k < 4; k++) {
                int[] p = {k == 0 ? wrong : 1, k == 1 ? wrong : 0, k == 2 ? wrong : 0, k == 3 ? wrong : 0};
                always("find " + k + " " + wrong, INDEX, x -> x.find(p[0], p[1], p[2], p[3]));
                always("anew " + k + " " + wrong, INDEX, x -> x.anew(p[0], p[1], p[2], p[3]));
                always("by " + k + " " + wrong, INDEX, x -> x.by(0, p[0], p[1], p[2], p[3]));
                always("by no engine " + k + " " + wrong, INDEX, x -> x.by(wrong, p[0], p[1], p[2], p[3]));
            }
        }
        int[][] near = {{4, 0, 0, 0}, {1, 3, 0, 0}, {1, 0, 6, 0}, {1, 0, 0, 3}, {0, 0, 0, 1}, {1, 2, 1, 0}};
        for (int[] p : near) {
            refused("find just beyond", INDEX, EdgeFaceTest::rich, x -> x.find(p[0], p[1], p[2], p[3]));
            refused("anew just beyond", INDEX, EdgeFaceTest::rich, x -> x.anew(p[0], p[1], p[2], p[3]));
            for (int engine = 0; engine < 3; engine++) {
                final int told = engine;
                refused("by just beyond", INDEX, EdgeFaceTest::rich, x -> x.by(told, p[0], p[1], p[2], p[3]));
            }
        }
    }

    private static void foundByEngines() {
        Sentence.says("Returns as find() tells it, but never TOO_FAR by the engines 1 and 2; NOT_TAKEN if the engine does not take the pattern, and of 2 for a group other than 0.");
        Bench b = new Bench();
        int both = b.pattern("(?:(a)+)+(c)?");
        int one = b.pattern("(?:(a)+)+$");
        int none = b.pattern("(a)++(c)");
        b.fill(0, times("a", 40) + "b");
        b.fill(1, times("a", 40) + "c");
        int far = b.pattern("(?:(a)+)+(c)");
        for (int group = 0; group <= 2; group++) {
            int match = group == 0 ? 40 : group == 1 ? 39040 : UNSET;
            Bench.same("by 1", b.x.by(1, both, 0, 0, group), match);
            Bench.same("by 2", b.x.by(2, both, 0, 0, group), group == 0 ? match : NOT_TAKEN);
            Bench.same("by 0 far", b.x.by(0, far, 0, 0, group), FAR);
            Bench.same("by 1 none", b.x.by(1, far, 0, 0, group), NONE);
            Bench.same("by 2 none", b.x.by(2, far, 0, 0, group), group == 0 ? NONE : NOT_TAKEN);
            Bench.same("by 1 not", b.x.by(1, none, 1, 0, group), NOT_TAKEN);
            Bench.same("by 2 not", b.x.by(2, none, 1, 0, group), NOT_TAKEN);
            Bench.same("by 0", b.x.by(0, none, 1, 0, group), b.x.find(none, 1, 0, group));
            Bench.same("by 2 not ends", b.x.by(2, one, 2, 0, Math.min(1, group)), NOT_TAKEN);
        }
        Sentence.says("Throws `IllegalArgumentException` if engine is out of range");
        for (int engine : new int[] {-1, 3, 4, MIN, MAX}) {
            refused("by " + engine, ARGUMENT, EdgeFaceTest::rich, x -> x.by(engine, 1, 0, 0, 2));
            refused("by " + engine, ARGUMENT, EdgeFaceTest::full, x -> x.by(engine, 2, 1, 21, 0));
        }
    }

    private static void toldSteps() {
        Sentence.says("Returns how many steps a search takes.");
        Ask.takes("", "", 0);
        Ask.takes("a", times("b", 80), 81);
        Ask.takes("(?:a+)+c", times("a", 80), FAR);
        Sentence.says("Throws `IndexOutOfBoundsException` if there is no such pattern, buffer or place");
        for (int wrong : new int[] {-1, 99, MIN, MAX}) {
            for (int k = 0; k < 3; k++) {
                int[] p = {k == 0 ? wrong : 1, k == 1 ? wrong : 0, k == 2 ? wrong : 0};
                always("steps " + k + " " + wrong, INDEX, x -> x.steps(p[0], p[1], p[2]));
                always("back " + k + " " + wrong, INDEX, x -> x.back(p[0], p[1], p[2]));
            }
        }
        for (int[] p : new int[][] {{4, 0, 0}, {1, 3, 0}, {1, 0, 6}, {1, 2, 1}}) {
            refused("steps just beyond", INDEX, EdgeFaceTest::rich, x -> x.steps(p[0], p[1], p[2]));
            refused("back just beyond", INDEX, EdgeFaceTest::rich, x -> x.back(p[0], p[1], p[2]));
        }
    }

    private static int backIn(String pattern, String text, int from) {
        Bench b = new Bench();
        b.fill(0, text);
        return b.x.back(b.pattern(pattern), 0, from);
    }

    private static void foundBack() {
        Sentence.says("the place is tried as the start, then the one ahead of it, and so on to 0; for (*S) it goes on with the next one ahead as well.");
        Bench.same("at the place", backIn("a", "aaa", 1), 1002);
        Bench.same("at the end", backIn("", "aaa", 3), 3003);
        Bench.same("from the end", backIn("a", "aaa", 3), 2003);
        Bench.same("down to 0", backIn("a", "abb", 3), 1);
        Bench.same("at 0 alone", backIn("a", "aaa", 0), 1);
        Bench.same("not behind the place", backIn("b", "aab", 1), NONE);
        Bench.same("none at 0", backIn("b", "ab", 0), NONE);
        Bench.same("in an empty one", backIn("a", "", 0), NONE);
        Bench.same("in an empty one", backIn("", "", 0), 0);
        Bench.same("from the last of 80", backIn("a", "a" + times("b", 79), 80), 1);
        Bench.same("a match that ends behind the place", backIn("ab+", "abbb", 1), 4);
        Bench.same("skip", backIn("aa(*S)b|a", "aaac", 0), NONE);
        Bench.same("skip", backIn("aa(*S)b|a", "aaac", 1), NONE);
        Bench.same("skip", backIn("aa(*S)b|a", "aaac", 2), 2003);
        Bench.same("skip ahead", backIn("ab(*S)c|a", "aabd", 1), 1);
        Bench.same("skip at the place", backIn("(*S)b|a", "bac", 2), 1);
        Bench.same("commit", backIn("b(*C)c|a", "aab", 2), NONE);
        Bench.same("commit", backIn("b(*C)c|a", "aab", 1), 1002);
        Bench.same("far", backIn("(?:a+)+c", times("a", 40), 40), FAR);
    }

    private static void toldMatches() {
        Sentence.says("Throws `IndexOutOfBoundsException` if there is no such pattern or buffer");
        for (int wrong : new int[] {-1, 99, MIN, MAX}) {
            for (int k = 0; k < 2; k++) {
                int[] p = {k == 0 ? wrong : 1, k == 1 ? wrong : 0};
                always("matches " + k + " " + wrong, INDEX, x -> x.matches(p[0], p[1]));
                always("match " + k + " " + wrong, INDEX, x -> x.match(p[0], p[1], 0));
            }
            always("match index " + wrong, INDEX, x -> x.match(0, 0, wrong));
        }
        refused("no such pattern", INDEX, EdgeFaceTest::rich, x -> x.matches(4, 0));
        refused("no such buffer", INDEX, EdgeFaceTest::rich, x -> x.matches(0, 3));
        Sentence.says("if there is no such pattern or buffer, or not so many matches ahead of a search that is TOO_FAR, or at all");
        refused("no such pattern", INDEX, EdgeFaceTest::rich, x -> x.match(4, 0, 0));
        refused("no such buffer", INDEX, EdgeFaceTest::rich, x -> x.match(0, 3, 0));
        refused("not so many", INDEX, EdgeFaceTest::rich, x -> x.match(0, 0, 2));
        refused("ahead of one too far", INDEX, EdgeFaceTest::rich, x -> x.match(2, 1, 1));
        refused("none at all", INDEX, EdgeFaceTest::rich, x -> x.match(0, 2, 0));
        Bench b = new Bench();
        rich(b);
        Bench.same("the last one", b.x.match(0, 0, 1), 3004);
        Bench.same("the one ahead of one too far", b.x.match(2, 1, 0), 1);
        Bench.same("matches", b.x.matches(2, 1), FAR);
        Bench.same("no matches", b.x.matches(0, 2), 0);
    }

    // ---- promises 19 to 24

    private static void filled() {
        Sentence.says("Puts the draft into a buffer in place of all that it has, by an edit, be both empty or not; the draft is empty then.");
        String[] texts = {"", "a", times("a", 80), "\n", ""};
        Bench b = new Bench();
        for (String text : texts) {
            for (int buffer = 0; buffer < 3; buffer++) {
                Bench.same("fill", b.fill(buffer, text), text.length());
                Bench.same("the draft", b.x.clear(), 0);
                Bench.same("size", b.x.size(buffer), text.length());
            }
        }
        for (int i = 0; i < 15; i++) {
            Bench.same("each is an edit", b.x.undo(), 1);
        }
        Bench.fails("no more", STATE, () -> b.x.undo());
        for (int wrong : new int[] {-1, 3, MIN, MAX}) {
            always("fill " + wrong, INDEX, x -> x.fill(wrong));
        }
        for (int size : new int[] {81, 120}) {
            for (int buffer = 0; buffer < 3; buffer++) {
                final int told = buffer;
                refused("fill with " + size, STATE, some -> {
                    rich(some);
                    some.draft(times("d", size));
                }, x -> x.fill(told));
            }
        }
        refused("while a group is open", STATE, some -> {
            withOpenGroup(some);
            some.draft(times("d", 81));
        }, x -> x.fill(0));
    }

    private static void sizesAndSigns() {
        Sentence.says("Throws `IndexOutOfBoundsException` if there is no such buffer");
        for (int wrong : new int[] {-2, -1, 3, 4, 256, MIN, MAX}) {
            refused("fill " + wrong, INDEX, EdgeFaceTest::rich, x -> x.fill(wrong));
            refused("fill " + wrong + " with a long draft", INDEX, EdgeFaceTest::longDraft, x -> x.fill(wrong));
            refused("size " + wrong, INDEX, EdgeFaceTest::rich, x -> x.size(wrong));
        }
        Sentence.says("Throws `IndexOutOfBoundsException` if there is no such buffer, or no character behind that place");
        for (int wrong : new int[] {-1, 3, MIN, MAX}) {
            always("size " + wrong, INDEX, x -> x.size(wrong));
            always("sign in " + wrong, INDEX, x -> x.sign(wrong, 0));
        }
        for (int wrong : new int[] {-1, 80, 81, 160, MIN, MAX}) {
            always("sign at " + wrong, INDEX, x -> x.sign(0, wrong));
        }
        refused("sign behind the last one", INDEX, EdgeFaceTest::rich, x -> x.sign(0, 5));
        refused("sign in an empty one", INDEX, EdgeFaceTest::rich, x -> x.sign(2, 0));
        Bench b = new Bench();
        b.fill(1, "x" + times("y", 78) + "\n");
        Bench.same("the first one", b.x.sign(1, 0), 'x');
        Bench.same("the last one but one", b.x.sign(1, 78), 'y');
        Bench.same("the last one", b.x.sign(1, 79), '\n');
    }

    private static void replaced() {
        Sentence.says("`most`: 1 to 100: how many matches at most");
        for (int most : new int[] {0, -1, 101, 1000, MIN, MAX}) {
            refused("most " + most, ARGUMENT, EdgeFaceTest::rich, x -> x.replace(0, 0, 0, most));
            refused("most " + most + " with one too far", ARGUMENT, EdgeFaceTest::rich, x -> x.replace(2, 0, 1, most));
            refused("most " + most + " with ten", ARGUMENT, EdgeFaceTest::recording, x -> x.replace(0, 0, 0, most));
        }
        Bench b = new Bench();
        rich(b);
        Bench.same("most 1", b.x.replace(0, 0, 0, 1), 1);
        Bench.same("most 100", b.x.replace(0, 0, 0, 100), 1);
        Sentence.says("Throws `IllegalArgumentException` if most is out of range");
        for (int most = -3; most <= 105; most++) {
            final int told = most;
            Bench some = new Bench();
            rich(some);
            if (most >= 1 && most <= 100) {
                Bench.same("most " + most, some.x.replace(0, 0, 0, told), Math.min(2, most));
            } else {
                Bench.fails("most " + most, ARGUMENT, () -> some.x.replace(0, 0, 0, told));
                Bench.same("the text", some.text(0), "abcab");
            }
        }
        Sentence.says("Throws `IndexOutOfBoundsException` if there is no such pattern, template or buffer");
        for (int wrong : new int[] {-1, 99, MIN, MAX}) {
            for (int k = 0; k < 3; k++) {
                int[] p = {k == 0 ? wrong : 0, k == 1 ? wrong : 0, k == 2 ? wrong : 0};
                always("replace " + k + " " + wrong, INDEX, x -> x.replace(p[0], p[1], p[2], 1));
                always("replace " + k + " " + wrong + " none", INDEX, x -> x.replace(p[0], p[1], p[2], 0));
            }
        }
        refused("no such pattern", INDEX, EdgeFaceTest::rich, x -> x.replace(4, 0, 0, 1));
        refused("no such template", INDEX, EdgeFaceTest::rich, x -> x.replace(0, 2, 0, 1));
        refused("no such buffer", INDEX, EdgeFaceTest::rich, x -> x.replace(0, 0, 3, 1));
        Sentence.says("Throws `IllegalStateException` if a search is TOO_FAR ahead of so many matches,");
        refused("too far", STATE, EdgeFaceTest::rich, x -> x.replace(2, 0, 1, 2));
        refused("too far", STATE, EdgeFaceTest::rich, x -> x.replace(2, 0, 1, 100));
        refused("too far in an open group", STATE, EdgeFaceTest::withOpenGroup, x -> x.replace(2, 0, 1, 2));
        refused("too far while it is recorded", STATE, some -> {
            rich(some);
            some.x.record();
        }, x -> x.replace(2, 0, 1, 2));
        Sentence.says("the buffer would have more than 80 characters behind all of it,");
        Consumer<Bench> nearlyFull = some -> {
            rich(some);
            some.template("\\\\$0\\\\");
            some.fill(1, times("a", 27));
        };
        refused("81", STATE, nearlyFull, x -> x.replace(0, 2, 1, 100));
        Bench.same("80", replacedIn(some -> {
            rich(some);
            some.template("\\\\$0\\\\");
            some.fill(1, times("a", 26) + "bb");
        }), 26);
        Sentence.says("or a macro that is recorded has 10 replacements");
        refused("an 11th one", STATE, EdgeFaceTest::recording, x -> x.replace(0, 0, 0, 1));
        refused("an 11th one without a match", STATE, EdgeFaceTest::recording, x -> x.replace(3, 0, 2, 1));
    }

    private static int replacedIn(Consumer<Bench> ahead) {
        Bench b = new Bench();
        ahead.accept(b);
        int replaced = b.x.replace(0, 2, 1, 100);
        Bench.same("size", b.x.size(1), 80);
        return replaced;
    }

    private static void marked() {
        Sentence.says("Throws `IllegalStateException` if there are 12 marks");
        refused("a 13th mark", STATE, EdgeFaceTest::full, x -> x.mark(0, 0, true));
        refused("a 13th mark", STATE, EdgeFaceTest::full, x -> x.mark(0, 5, false));
        refused("a 13th mark at no place", INDEX, EdgeFaceTest::full, x -> x.mark(0, 6, true));
        refused("a 13th mark in no buffer", INDEX, EdgeFaceTest::full, x -> x.mark(3, 0, true));
        Sentence.says("Throws `IndexOutOfBoundsException` if there is no such buffer or place");
        for (int wrong : new int[] {-1, 99, MIN, MAX}) {
            always("mark in " + wrong, INDEX, x -> x.mark(wrong, 0, true));
            always("mark at " + wrong, INDEX, x -> x.mark(0, wrong, false));
        }
        refused("behind the end", INDEX, EdgeFaceTest::rich, x -> x.mark(0, 6, true));
        refused("behind the end of an empty one", INDEX, EdgeFaceTest::rich, x -> x.mark(2, 1, true));
        Bench b = new Bench();
        rich(b);
        Bench.same("at the end", b.x.place(b.x.mark(0, 5, true)), 5);
        Bench.same("at the beginning", b.x.place(b.x.mark(0, 0, true)), 0);
        Bench.same("in an empty one", b.x.place(b.x.mark(2, 0, true)), 0);
        Sentence.says("Throws `IndexOutOfBoundsException` if there is no such mark");
        for (int wrong : new int[] {-1, 12, 13, MIN, MAX}) {
            always("place " + wrong, INDEX, x -> x.place(wrong));
        }
        refused("a mark that comes next", INDEX, EdgeFaceTest::rich, x -> x.place(2));
    }

    // ---- promises 25 to 30

    private static void openedAndShut() {
        Sentence.says("Returns how many groups can be undone then.");
        Bench b = new Bench();
        Bench.same("open", b.x.open(), 0);
        Bench.same("shut", b.x.shut(), 0);
        b.fill(0, "a");
        Bench.same("open", b.x.open(), 1);
        b.fill(0, "b");
        Bench.same("shut", b.x.shut(), 2);
        b.x.undo();
        Bench.same("open", b.x.open(), 1);
        Bench.same("shut", b.x.shut(), 1);
        b.x.undo();
        Bench.same("open", b.x.open(), 0);
        Bench.same("shut", b.x.shut(), 0);
        b.x.redo();
        b.x.redo();
        Bench.same("open", b.x.open(), 2);
        Bench.same("shut", b.x.shut(), 2);
        Sentence.says("Throws `IllegalStateException` if one is open");
        refused("open", STATE, EdgeFaceTest::withOpenGroup, x -> x.open());
        refused("open", STATE, EdgeFaceTest::withEmptyGroup, x -> x.open());
        Sentence.says("Throws `IllegalStateException` if none is open");
        refused("shut", STATE, some -> { }, x -> x.shut());
        refused("shut", STATE, EdgeFaceTest::rich, x -> x.shut());
        refused("shut again", STATE, some -> {
            withOpenGroup(some);
            some.x.shut();
        }, x -> x.shut());
    }

    private static void undoneAndRedone() {
        Sentence.says("Returns how many edits that are.");
        Bench counted = new Bench();
        counted.pattern("");
        counted.template("");
        for (int size : new int[] {0, 1, 79, 80}) {
            counted.fill(0, times("a", size));
            Bench.same("replace", counted.x.replace(0, 0, 0, 100), size + 1);
            Bench.same("undo", counted.x.undo(), size + 1);
            Bench.same("redo", counted.x.redo(), size + 1);
            Bench.same("undo", counted.x.undo(), size + 1);
            Bench.same("undo of a fill", counted.x.undo(), 1);
            Bench.same("redo of a fill", counted.x.redo(), 1);
        }
        Sentence.says("Undoes the last group that is not undone.");
        Bench b = new Bench();
        b.fill(0, "a");
        b.fill(1, "b");
        b.fill(2, "c");
        Bench.same("undo", b.x.undo(), 1);
        Bench.same("texts", b.text(0) + b.text(1) + b.text(2), "ab");
        Bench.same("undo", b.x.undo(), 1);
        Bench.same("texts", b.text(0) + b.text(1) + b.text(2), "a");
        Sentence.says("Redoes the group that was undone last.");
        Bench.same("redo", b.x.redo(), 1);
        Bench.same("texts", b.text(0) + b.text(1) + b.text(2), "ab");
        Bench.same("undo", b.x.undo(), 1);
        Bench.same("undo", b.x.undo(), 1);
        Bench.same("redo", b.x.redo(), 1);
        Bench.same("texts", b.text(0) + b.text(1) + b.text(2), "a");
        Sentence.says("Throws `IllegalStateException` if a group is open, or there is none");
        refused("undo of none", STATE, some -> { }, x -> x.undo());
        refused("redo of none", STATE, some -> { }, x -> x.redo());
        refused("undo with an open group", STATE, EdgeFaceTest::withOpenGroup, x -> x.undo());
        refused("redo with an open group", STATE, EdgeFaceTest::withOpenGroup, x -> x.redo());
        refused("undo with an empty group", STATE, EdgeFaceTest::withEmptyGroup, x -> x.undo());
        refused("redo with an empty group", STATE, EdgeFaceTest::withEmptyGroup, x -> x.redo());
        refused("undo of all", STATE, some -> {
            rich(some);
            some.x.undo();
            some.x.undo();
        }, x -> x.undo());
        refused("redo of all", STATE, some -> {
            rich(some);
            some.x.redo();
            some.x.redo();
        }, x -> x.redo());
        refused("redo behind an edit", STATE, some -> {
            rich(some);
            some.x.fill(2);
        }, x -> x.redo());
    }

    private static void recordedAndPlayed() {
        Sentence.says("Returns -1 when it begins; the number of the macro when it ends.");
        Bench b = new Bench();
        for (int i = 0; i < 6; i++) {
            Bench.same("it begins", b.x.record(), -1);
            Bench.same("it ends", b.x.record(), i);
        }
        Sentence.says("Throws `IllegalStateException` if it would begin, and there are 6 macros");
        refused("a 7th one", STATE, EdgeFaceTest::full, x -> x.record());
        Sentence.says("Throws `IndexOutOfBoundsException` if there is no such macro or buffer");
        for (int wrong : new int[] {-1, 6, 99, MIN, MAX}) {
            always("play " + wrong, INDEX, x -> x.play(wrong, 0));
            always("play on " + wrong, INDEX, x -> x.play(0, wrong));
            always("play " + wrong + " on it", INDEX, x -> x.play(wrong, wrong));
        }
        refused("play on 3", INDEX, EdgeFaceTest::rich, x -> x.play(0, 3));
        refused("one that comes next", INDEX, EdgeFaceTest::rich, x -> x.play(1, 0));
        refused("one that is recorded now", INDEX, EdgeFaceTest::recording, x -> x.play(1, 0));
        Sentence.says("Returns how many matches are replaced in all.");
        Bench all = new Bench();
        all.pattern("a|");
        all.template("$0");
        all.fill(0, times("a", 80));
        for (int i = 0; i < 3; i++) {
            all.x.record();
            for (int k = 0; k < 5 * i; k++) {
                all.x.replace(0, 0, 0, 100);
            }
            Bench.same("record", all.x.record(), i);
            Bench.same("play", all.x.play(i, 0), 81 * 5 * i);
            Bench.same("on an empty one", all.x.play(i, 1), 5 * i);
        }
        Sentence.says("Throws `IllegalStateException` if one of its replacements would not be possible");
        Consumer<Bench> far = some -> {
            rich(some);
            some.x.record();
            some.x.replace(0, 0, 2, 1);
            some.x.replace(2, 0, 2, 100);
            some.x.record();
        };
        refused("the second one is too far", STATE, far, x -> x.play(1, 1));
        Consumer<Bench> large = some -> {
            rich(some);
            some.template(times("y", 61));
            some.x.record();
            some.x.replace(0, 0, 2, 1);
            some.x.replace(0, 2, 2, 1);
            some.x.record();
        };
        refused("the second one makes it too large", STATE, large, x -> x.play(1, 1));
        refused("also in an open group", STATE, some -> {
            large.accept(some);
            some.x.open();
            some.fill(2, "q");
        }, x -> x.play(1, 1));
    }

    // ---- promises 31 to 34

    private static void streamed() {
        Sentence.says("Throws `IndexOutOfBoundsException` if there is no such pattern");
        for (int wrong : NO_PATTERN) {
            always("stream " + wrong, INDEX, x -> x.stream(wrong, false));
            always("an anchored stream " + wrong, INDEX, x -> x.stream(wrong, true));
        }
        refused("a pattern that comes next", INDEX, EdgeFaceTest::rich, x -> x.stream(4, false));
        Sentence.says("Throws `IllegalStateException` if the engine 2 does not take it, or there are 4 streams");
        refused("with an end", STATE, EdgeFaceTest::rich, x -> x.stream(3, false));
        refused("a fifth one", STATE, EdgeFaceTest::full, x -> x.stream(0, false));
        refused("a fifth one with an end", STATE, EdgeFaceTest::full, x -> x.stream(3, true));
        Sentence.says("Throws `IndexOutOfBoundsException` if there is no such stream");
        for (int wrong : new int[] {-1, 4, 5, MIN, MAX}) {
            always("feed " + wrong, INDEX, x -> x.feed(wrong));
            always("finish " + wrong, INDEX, x -> x.finish(wrong));
            always("told " + wrong, INDEX, x -> x.told(wrong));
        }
        refused("feed one that comes next", INDEX, EdgeFaceTest::rich, x -> x.feed(3));
        refused("finish one that comes next", INDEX, EdgeFaceTest::rich, x -> x.finish(3));
        refused("told of one that comes next", INDEX, EdgeFaceTest::rich, x -> x.told(3));
        Sentence.says("Gives a stream the draft as the next piece; the draft is empty then.");
        Bench b = new Bench();
        rich(b);
        Bench.same("feed", b.x.feed(0), MendBench.NOT_YET);
        Bench.same("the draft", b.x.clear(), 0);
        Bench.same("feed", b.feed(0, "a"), 4005);
        Bench.same("feed", b.x.feed(0), 4005);
        Sentence.says("Throws `IllegalStateException` if it is finished, or its text would have more than 80 characters");
        refused("a finished one", STATE, EdgeFaceTest::rich, x -> x.feed(2));
        refused("a finished one without a draft", STATE, some -> {
            rich(some);
            some.x.clear();
        }, x -> x.feed(2));
        refused("81", STATE, some -> {
            rich(some);
            some.draft(times("d", 79));
        }, x -> x.feed(0));
        refused("120 more", STATE, EdgeFaceTest::longDraft, x -> x.feed(0));
        Bench fits = new Bench();
        rich(fits);
        Bench.same("80", fits.feed(0, times("d", 78)), MendBench.NOT_YET);
        Sentence.says("Throws `IllegalStateException` if it is finished");
        refused("finish again", STATE, EdgeFaceTest::rich, x -> x.finish(2));
    }

    // ---- all calls

    private static void firstException() {
        Sentence.says("If several apply, IndexOutOfBoundsException goes first, then IllegalArgumentException.");
        Consumer<Bench> rich = EdgeFaceTest::rich;
        refused("begins", INDEX, rich, x -> x.begins(4, 9) ? 1 : 0);
        refused("literal", INDEX, rich, x -> x.literal(4, -1));
        refused("by: pattern and engine", INDEX, rich, x -> x.by(3, 4, 0, 0, 0));
        refused("by: buffer and engine", INDEX, rich, x -> x.by(3, 0, 3, 0, 0));
        refused("by: place and engine", INDEX, rich, x -> x.by(3, 0, 0, 6, 0));
        refused("by: group and engine", INDEX, rich, x -> x.by(3, 0, 0, 0, 1));
        refused("replace: pattern and most", INDEX, rich, x -> x.replace(4, 0, 0, 0));
        refused("replace: template and most", INDEX, rich, x -> x.replace(0, 2, 0, 0));
        refused("replace: buffer and most", INDEX, rich, x -> x.replace(0, 0, 3, 101));
        refused("replace: buffer and ten", INDEX, EdgeFaceTest::recording, x -> x.replace(0, 0, 3, 1));
        refused("replace: most and ten", ARGUMENT, EdgeFaceTest::recording, x -> x.replace(0, 0, 0, 0));
        refused("replace: most and too far", ARGUMENT, rich, x -> x.replace(2, 0, 1, 0));
        refused("fill: buffer and draft", INDEX, EdgeFaceTest::longDraft, x -> x.fill(3));
        refused("type: characters and draft", ARGUMENT, EdgeFaceTest::longDraft, x -> x.type(0));
        refused("mark: place and 12 marks", INDEX, EdgeFaceTest::full, x -> x.mark(0, 6, true));
        refused("mark: buffer and 12 marks", INDEX, EdgeFaceTest::full, x -> x.mark(3, 0, true));
        refused("play: buffer and too far", INDEX, EdgeFaceTest::full, x -> x.play(2, 3));
        refused("stream: pattern and 4 streams", INDEX, EdgeFaceTest::full, x -> x.stream(12, true));
        refused("feed: stream and draft", INDEX, EdgeFaceTest::longDraft, x -> x.feed(4));
    }

    private static void outOfRange() {
        Sentence.says("IllegalArgumentException for another argument out of range, and IllegalStateException if a call is not possible now.");
        Consumer<Bench> rich = EdgeFaceTest::rich;
        refused("four", ARGUMENT, rich, x -> x.type(127));
        refused("letter", ARGUMENT, rich, x -> x.part(96));
        refused("code", ARGUMENT, rich, x -> x.begins(0, 127) ? 1 : 0);
        refused("index", ARGUMENT, rich, x -> x.literal(0, -1));
        refused("engine", ARGUMENT, rich, x -> x.by(3, 0, 0, 0, 0));
        refused("most", ARGUMENT, rich, x -> x.replace(0, 0, 0, 101));
        refused("type", STATE, EdgeFaceTest::longDraft, x -> x.type('a'));
        refused("pattern", STATE, EdgeFaceTest::full, x -> x.pattern());
        refused("template", STATE, EdgeFaceTest::full, x -> x.template());
        refused("fill", STATE, EdgeFaceTest::longDraft, x -> x.fill(0));
        refused("replace", STATE, EdgeFaceTest::recording, x -> x.replace(0, 0, 0, 1));
        refused("mark", STATE, EdgeFaceTest::full, x -> x.mark(0, 0, true));
        refused("open", STATE, EdgeFaceTest::withOpenGroup, x -> x.open());
        refused("shut", STATE, rich, x -> x.shut());
        refused("undo", STATE, EdgeFaceTest::withOpenGroup, x -> x.undo());
        refused("redo", STATE, EdgeFaceTest::withOpenGroup, x -> x.redo());
        refused("record", STATE, EdgeFaceTest::full, x -> x.record());
        refused("stream", STATE, EdgeFaceTest::full, x -> x.stream(0, true));
        refused("feed", STATE, EdgeFaceTest::longDraft, x -> x.feed(0));
        refused("finish", STATE, rich, x -> x.finish(2));
    }

    private static void refusedAnywhere() {
        Sentence.says("A call that throws an exception changes nothing.");
        // What is refused in an unlike state: each of these is held against a twin that was not called.
        for (Consumer<Bench> ahead : java.util.List.<Consumer<Bench>>of(EdgeFaceTest::withOpenGroup, EdgeFaceTest::withEmptyGroup)) {
            refused("open", STATE, ahead, x -> x.open());
            refused("undo", STATE, ahead, x -> x.undo());
            refused("redo", STATE, ahead, x -> x.redo());
            refused("replace", STATE, ahead, x -> x.replace(2, 0, 1, 2));
            refused("replace", ARGUMENT, ahead, x -> x.replace(2, 0, 1, 0));
            refused("fill", INDEX, ahead, x -> x.fill(3));
            refused("play", INDEX, ahead, x -> x.play(1, 1));
        }
        // Several refused calls behind one another.
        Bench one = new Bench();
        Bench other = new Bench();
        full(one);
        full(other);
        Bench.fails("pattern", STATE, () -> one.x.pattern());
        Bench.fails("template", STATE, () -> one.x.template());
        Bench.fails("mark", STATE, () -> one.x.mark(0, 0, true));
        Bench.fails("record", STATE, () -> one.x.record());
        Bench.fails("stream", STATE, () -> one.x.stream(0, true));
        Bench.fails("feed", STATE, () -> one.x.feed(2));
        Bench.fails("replace", STATE, () -> one.x.replace(2, 0, 1, 100));
        Bench.fails("shut", STATE, () -> one.x.shut());
        for (int i = 0; i < 2; i++) {
            Bench.same("redo", one.x.redo(), other.x.redo());
        }
        Bench.fails("redo", STATE, () -> one.x.redo());
        Bench.same("all behind them", Twins.all(one), Twins.all(other));
    }

    private static void fullOfAll() {
        Sentence.says("IndexOutOfBoundsException is thrown for a pattern, template, buffer, place, match, mark, macro, stream, or group (above that of the pattern) that does not exist,");
        Bench b = new Bench();
        full(b);
        Bench.same("the last pattern", b.x.groups(11), 3);
        Bench.fails("pattern", INDEX, () -> b.x.groups(12));
        Bench.same("the last template", b.x.replace(0, 7, 2, 1), 0);
        Bench.fails("template", INDEX, () -> b.x.replace(0, 8, 2, 1));
        Bench.same("the last buffer", b.x.size(2), 0);
        Bench.fails("buffer", INDEX, () -> b.x.size(3));
        Bench.same("the last place", b.x.find(0, 0, 5, 0), -1);
        Bench.fails("place", INDEX, () -> b.x.find(0, 0, 6, 0));
        Bench.same("the last match", b.x.match(0, 0, 1), 3004);
        Bench.fails("match", INDEX, () -> b.x.match(0, 0, 2));
        Bench.same("the last mark", b.x.place(11), 0);
        Bench.fails("mark", INDEX, () -> b.x.place(12));
        Bench.same("the last macro", b.x.play(5, 2), 0);
        Bench.fails("macro", INDEX, () -> b.x.play(6, 2));
        Bench.same("the last stream", b.x.told(3), MendBench.NOT_YET);
        Bench.fails("stream", INDEX, () -> b.x.told(4));
        Bench.same("the last group", b.x.find(1, 0, 0, 2), 2003);
        Bench.fails("group", INDEX, () -> b.x.find(1, 0, 0, 3));
    }

    private static void manyCalls() {
        Sentence.says("An object is used for at most 512 calls after it has been made;");
        Bench typed = new Bench();
        for (int i = 0; i < 256; i++) {
            Bench.same("type", typed.x.type('a'), 1);
            Bench.same("clear", typed.x.clear(), 1);
        }
        Bench edited = new Bench();
        for (int i = 0; i < 256; i++) {
            Bench.same("fill", edited.x.fill(i % 3), 0);
        }
        for (int i = 0; i < 256; i++) {
            Bench.same("undo", edited.x.undo(), 1);
        }
        Bench again = new Bench();
        again.fill(0, "a");
        for (int i = 0; i < 255; i++) {
            Bench.same("undo", again.x.undo(), 1);
            Bench.same("redo", again.x.redo(), 1);
        }
        Bench.same("size", again.x.size(0), 1);
        Bench groups = new Bench();
        groups.x.open();
        for (int i = 0; i < 509; i++) {
            groups.x.fill(0);
        }
        Bench.same("shut", groups.x.shut(), 1);
        Bench.same("undo", groups.x.undo(), 509);
        // The same search again and again, with very much around it, by each way that there is.
        Bench found = new Bench();
        found.pattern("(((((((((a)))))))))+");
        found.fill(0, times("a", 80));
        for (int i = 0; i < 75; i++) {
            Bench.same("find", found.x.find(0, 0, 0, 9), 79080);
            Bench.same("anew", found.x.anew(0, 0, 0, 9), 79080);
            Bench.same("by 0", found.x.by(0, 0, 0, 0, 0), 80);
            Bench.same("by 1", found.x.by(1, 0, 0, 0, 9), 79080);
            Bench.same("by 2", found.x.by(2, 0, 0, 0, 0), 80);
            Bench.same("back", found.x.back(0, 0, 79), 79080);
        }
        // 470 times the most edits of a macro, and the last but one call takes one of them back.
        Bench most = new Bench();
        most.pattern("a|");
        most.template("$0");
        most.fill(0, times("a", 80));
        most.x.record();
        for (int i = 0; i < 10; i++) {
            most.x.replace(0, 0, 0, 100);
        }
        most.x.record();
        // 40 calls so far: 6 for the pattern and the template, 22 for the fill, 12 for the macro.
        for (int i = 0; i < 470; i++) {
            Bench.same("play", most.x.play(0, 0), 810);
        }
        Bench.same("undo", most.x.undo(), 810);
        Bench.same("size", most.x.size(0), 80);
    }
}
