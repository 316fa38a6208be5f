import java.lang.management.ManagementFactory;
import java.lang.reflect.Array;
import java.lang.reflect.Field;
import java.lang.reflect.Modifier;
import java.util.ArrayDeque;
import java.util.Deque;
import java.util.IdentityHashMap;
import java.util.Map;

/**
 * What a run of calls makes: a bench makes its rows as it is made itself, and uses them again. Nothing but the log of
 * edits grows, and a search goes on within its steps whatever it has around it.
 */
public final class RoomTest {
    private static final int MOST_OBJECTS = 600000;
    private static final int MOST_ELEMENTS = 7300000;
    private static final String NESTED = "((((((((()))))))))";

    /** What is tried in each call, and is counted. */
    private interface Call {
        void on(MendBench bench);
    }

    public static void main(String[] args) {
        newBench();
        keptRows();
        dearestEdits();
        allocations();
        manyGroups();
        agreement();
        Bench.end();
    }

    private static String times(String text, int times) {
        return text.repeat(times);
    }

    // ---- objects and elements that a bench holds

    /** The objects and arrays that can be reached, and their fields and elements. */
    private static long[] count(MendBench bench) {
        Map<Object, Boolean> seen = new IdentityHashMap<>();
        Deque<Object> open = new ArrayDeque<>();
        seen.put(bench, true);
        open.add(bench);
        long elements = 0;
        while (!open.isEmpty()) {
            Object next = open.remove();
            elements += next.getClass().isArray() ? elementsOf(next, seen, open) : fieldsOf(next, seen, open);
        }
        return new long[] {seen.size(), elements};
    }

    private static int elementsOf(Object array, Map<Object, Boolean> seen, Deque<Object> open) {
        int length = Array.getLength(array);
        if (!array.getClass().getComponentType().isPrimitive()) {
            for (int i = 0; i < length; i++) {
                meet(Array.get(array, i), seen, open);
            }
        }
        return length;
    }

    private static int fieldsOf(Object object, Map<Object, Boolean> seen, Deque<Object> open) {
        int fields = 0;
        for (Field field : object.getClass().getDeclaredFields()) {
            if (!Modifier.isStatic(field.getModifiers())) {
                fields++;
                if (!field.getType().isPrimitive()) {
                    field.setAccessible(true);
                    meet(valueOf(field, object), seen, open);
                }
            }
        }
        return fields;
    }

    private static Object valueOf(Field field, Object object) {
        try {
            return field.get(object);
        } catch (IllegalAccessException e) {
            Bench.wrong++;
            return null;
        }
    }

    private static void meet(Object object, Map<Object, Boolean> seen, Deque<Object> open) {
        if (object != null && seen.put(object, true) == null) {
            open.add(object);
        }
    }

    private static void newBench() {
        long[] made = count(new MendBench());
        System.out.println("a new bench has " + made[0] + " objects, " + made[1] + " elements");
        Bench.same("a new bench is small", made[0] < MOST_OBJECTS / 100 && made[1] < MOST_ELEMENTS / 20, true);
    }

    /** All that can be kept is kept, and no row is made for it; the buffers are filled ahead, for their log. */
    private static void keptRows() {
        Bench b = new Bench();
        b.fill(0, times("a", 80));
        long[] made = count(b.x);
        for (int i = 0; i < 26; i++) {
            Bench.same("part", b.part((char) ('a' + i), "a(b|c)"), 5);
        }
        for (int i = 0; i < 12; i++) {
            Bench.same("no pattern", b.pattern("(a+"), -1);
            Bench.same("pattern", b.pattern("(?&a)|a{1,3}"), i);
        }
        for (int i = 0; i < 8; i++) {
            Bench.same("template", b.template("\\U$0"), i);
        }
        for (int i = 0; i < 4; i++) {
            Bench.same("stream", b.x.stream(i, false), i);
            Bench.same("feed", b.feed(i, times("b", 80)), MendBench.NOT_YET);
            Bench.same("finish", b.x.finish(i), MendBench.NONE);
        }
        for (int i = 0; i < 12; i++) {
            Bench.same("mark", b.x.mark(0, i, true), i);
            Bench.same("find", b.x.find(i, 0, i, 0), 1000 * i + i + 3);
            Bench.same("by", b.x.by(1, i, 0, i, 0), 1000 * i + i + 3);
            Bench.same("matches", b.x.matches(i, 0), 27);
        }
        long[] then = count(b.x);
        Bench.same("objects", then[0], made[0]);
        Bench.same("elements", then[1], made[1]);
        Bench.same("draft", b.x.clear(), 0);
    }

    /** The macro with the most edits and characters, as often as there are calls. */
    private static void dearestEdits() {
        Bench b = new Bench();
        int sign = b.pattern("a|");
        int same = b.template("$0");
        b.fill(0, times("a", 80));
        b.x.record();
        for (int i = 0; i < 10; i++) {
            Bench.same("replace", b.x.replace(sign, same, 0, 100), 81);
        }
        b.x.record();
        for (int i = 0; i < 460; i++) {
            Bench.same("play", b.x.play(0, 0), 810);
        }
        for (int i = 0; i < 20; i++) {
            Bench.same("undo", b.x.undo(), 810);
        }
        Bench.same("size", b.x.size(0), 80);
        long[] made = count(b.x);
        System.out.println("behind the most edits it has " + made[0] + " objects, " + made[1] + " elements");
        Bench.same("it keeps to the room", made[0] < MOST_OBJECTS / 4 && made[1] < MOST_ELEMENTS / 4, true);
    }

    // ---- what a call makes, also if it is given up again

    private static void allocations() {
        String deep = "(?:(?:(?:" + NESTED + "){20}){20}){2}";
        for (int turn = 0; turn < 2; turn++) {
            // The first turn is for what the machine itself makes as it meets a method for the first time.
            boolean isCounted = turn > 0;
            Bench b = new Bench();
            b.fill(0, times("ab", 30));
            b.draft("(a|b)(?=(c)?)(?:x++|[^\\d--[x]]{2,}?)");
            makesNothing("part", b.x, isCounted, bench -> bench.part('p'));
            b.draft("(a|b){0,3}c|(?i:[a-c]{2}){0}");
            makesNothing("pattern", b.x, isCounted, bench -> bench.pattern());
            b.draft(deep);
            makesNothing("pattern", b.x, isCounted, bench -> bench.pattern());
            b.draft("(?&p)|b");
            makesNothing("pattern", b.x, isCounted, bench -> bench.pattern());
            b.draft("(?&p)|(");
            makesNothing("no pattern", b.x, isCounted, bench -> bench.pattern());
            b.draft("$0?1{a|b}");
            makesNothing("template", b.x, isCounted, bench -> bench.template());
            makesNothing("stream", b.x, isCounted, bench -> bench.stream(0, true));
            b.draft("abab");
            makesNothing("feed", b.x, isCounted, bench -> bench.feed(0));
            makesNothing("finish", b.x, isCounted, bench -> bench.finish(0));
            makesNothing("find", b.x, isCounted, bench -> bench.find(0, 0, 0, 1));
            makesNothing("a deep find", b.x, isCounted, bench -> bench.find(1, 0, 0, 1));
            makesNothing("anew", b.x, isCounted, bench -> bench.anew(2, 0, 0, 1));
            makesNothing("by", b.x, isCounted, bench -> bench.by(1, 0, 0, 0, 1));
            makesNothing("by", b.x, isCounted, bench -> bench.by(2, 0, 0, 0, 0));
            makesNothing("steps", b.x, isCounted, bench -> bench.steps(1, 0, 0));
            makesNothing("back", b.x, isCounted, bench -> bench.back(1, 0, 60));
            makesNothing("matches", b.x, isCounted, bench -> bench.matches(2, 0));
            makesNothing("match", b.x, isCounted, bench -> bench.match(2, 0, 1));
            makesNothing("replace", b.x, isCounted, bench -> bench.replace(2, 0, 0, 1));
            makesNothing("undo", b.x, isCounted, bench -> bench.undo());
            makesNothing("redo", b.x, isCounted, bench -> bench.redo());
        }
    }

    private static void makesNothing(String what, MendBench bench, boolean isCounted, Call call) {
        com.sun.management.ThreadMXBean threads = (com.sun.management.ThreadMXBean) ManagementFactory.getThreadMXBean();
        if (!threads.isThreadAllocatedMemorySupported() || !threads.isThreadAllocatedMemoryEnabled()) {
            call.on(bench);
            return;
        }
        long before = threads.getCurrentThreadAllocatedBytes();
        call.on(bench);
        long made = threads.getCurrentThreadAllocatedBytes() - before;
        if (isCounted) {
            // A row of work would be some hundreds; a few bytes may be the machine's own.
            Bench.same(what + " makes rows", made > 128, false);
        }
    }

    // ---- searches with very many groups and rounds around them: too far by their steps alone

    private static void manyGroups() {
        // Each innermost round is a step, and nine groups begin and end in it.
        String deep = "(?:(?:(?:" + NESTED + "){20}){20}){2}";
        searched(deep, "", 885, 9);
        searched(deep + "\\A{20}\\A{20}\\A{16}", "", 1000, 9);
        searched(deep + "\\A{20}\\A{20}\\A{16}\\A", "", MendBench.TOO_FAR, 9);
        searched("\\A{20}\\A{20}\\A{16}" + deep, "", 1000, 9);
        searched("\\A\\A{20}\\A{20}\\A{16}" + deep, "", MendBench.TOO_FAR, 9);
        searched("(?:(?:(?:" + NESTED + "){20}){20}){20}", "", MendBench.TOO_FAR, 9);
        searched("(?:(?:(?:" + NESTED + "){20}?){20}?){2}?", "", 885, 9);
        searched("(?:(?:(?:" + NESTED + "){20}){20}){2}+", "", 886, 9);
        searched("(?=(?:(?:(?:" + NESTED + "){20}){20}){2})", "", 886, 9);
        // A call is a step, too, and its groups are frames though nothing of them stays.
        searched("(?:(?:(?2){20}){20})(" + NESTED.substring(1, 17) + ")", "", 841, 9);
        searched("(?:(?0)|)" + NESTED, "", 43, 9);
        searched("(?:(?:(?:(?0)|)" + NESTED + "){20}){20}", "", MendBench.TOO_FAR, 9);
        longText();
        inBuffers(deep);
    }

    /** A pattern that is empty at 0, if it is found, with all of its groups. */
    private static void searched(String told, String in, int steps, int groups) {
        Bench b = new Bench();
        int number = b.pattern(told);
        b.fill(0, in);
        boolean isFar = steps == MendBench.TOO_FAR;
        Bench.same("groups of " + told, b.x.groups(number) / 10, groups);
        Bench.same("steps of " + told, b.x.steps(number, 0, 0), steps);
        for (int group = 0; group <= groups; group++) {
            int due = isFar ? MendBench.TOO_FAR : 0;
            Bench.same(told + " find " + group, b.x.find(number, 0, 0, group), due);
            Bench.same(told + " anew " + group, b.x.anew(number, 0, 0, group), due);
            Bench.same(told + " by 0 " + group, b.x.by(0, number, 0, 0, group), due);
        }
        Bench.same(told + " back", b.x.back(number, 0, 0), isFar ? MendBench.TOO_FAR : 0);
        Bench.same(told + " matches", b.x.matches(number, 0), isFar ? MendBench.TOO_FAR : 1);
    }

    /** Nine groups in each of 80 rounds, one for each character. */
    private static void longText() {
        Bench b = new Bench();
        int number = b.pattern("(((((((((a)))))))))+");
        b.fill(0, times("a", 80));
        Bench.same("steps", b.x.steps(number, 0, 0), 1 + 80 * 2 + 2);
        Bench.same("find", b.x.find(number, 0, 0, 0), 80);
        Bench.same("find", b.x.find(number, 0, 0, 9), 79080);
        // Going back over all rounds gives up the groups of each: (*F) is tried behind every one of them.
        int none = b.pattern("^(((((((((a)))))))))+(*F)");
        Bench.same("steps", b.x.steps(none, 0, 0), 1 + 1 + 80 * 2 + 2 + 80 + 80);
        Bench.same("find", b.x.find(none, 0, 0, 9), MendBench.NONE);
    }

    private static void inBuffers(String deep) {
        Bench b = new Bench();
        int number = b.pattern("x|" + deep + "\\A{20}\\A{20}\\A{14}");
        int far = b.pattern("x|" + deep + "\\A{20}\\A{20}\\A{15}");
        int template = b.template("$9y");
        Bench.same("steps", b.x.steps(number, 0, 0), 3 + 885 + 41 + 41 + 29);
        b.fill(1, "x");
        b.x.record();
        Bench.same("replace", b.x.replace(far, template, 1, 1), 1);
        Bench.same("record", b.x.record(), 0);
        Bench.same("text", b.text(1), "y");
        b.fill(1, "");
        Bench.same("replace", b.x.replace(number, template, 1, 100), 1);
        Bench.same("text", b.text(1), "y");
        b.fill(1, "");
        Bench.same("match", b.x.match(number, 1, 0), 0);
        Bench.fails("match", IndexOutOfBoundsException.class, () -> b.x.match(far, 1, 0));
        Bench.fails("replace", IllegalStateException.class, () -> b.x.replace(far, template, 1, 100));
        Bench.fails("play", IllegalStateException.class, () -> b.x.play(0, 1));
        Bench.same("size", b.x.size(1), 0);
    }

    // ---- the same, held against the reference

    private static void agreement() {
        Thread deep = new Thread(null, RoomTest::compareMany, "deep", 1L << 30);
        deep.start();
        try {
            deep.join();
        } catch (InterruptedException e) {
            Bench.wrong++;
        }
    }

    private static void compareMany() {
        Chance chance = new Chance(7);
        String[] atoms = {"", "", "a", "a?", "(?0)", "(?1)", "(?3)", "(?:(?0)|)", "(?:(?1)|)", "\\1", "\\b", "(?2)?"};
        String[] opens = {"(", "(", "(", "(?:", "(?>", "(?=", "(?<=", "(?!", "(?(1)"};
        String[] repeats = {"{20}", "{20}", "{10}", "{10}?", "*", "{2}", "?", "{3}+", "+", "", ""};
        int read = 0;
        for (int run = 0; run < 20000 && Bench.wrong < 20; run++) {
            String told = row(chance, 5, atoms, opens, repeats);
            Reference reference = told.length() > 120 ? null : Reference.read(told, Map.of(), (char) 0);
            if (reference != null) {
                read++;
                compare(told, chance.one(2) ? "" : "aaaa a", reference);
            }
        }
        System.out.println(read + " patterns with many groups");
    }

    private static String row(Chance chance, int depth, String[] atoms, String[] opens, String[] repeats) {
        StringBuilder made = new StringBuilder();
        int items = 1 + chance.below(3);
        for (int i = 0; i < items; i++) {
            if (depth > 0 && chance.one(2)) {
                made.append(chance.of(opens)).append(row(chance, depth - 1, atoms, opens, repeats)).append(')');
            } else {
                made.append(chance.of(atoms));
            }
            made.append(chance.of(repeats));
        }
        return made.toString();
    }

    private static void compare(String told, String in, Reference reference) {
        Bench b = new Bench();
        int number = b.pattern(told);
        b.fill(0, in);
        int due = reference.find(in, 0, 1000, false);
        Bench.same("steps of " + told, b.x.steps(number, 0, 0), due == Reference.FAR ? due : reference.steps);
        for (int group = 0; group <= reference.groups; group++) {
            Bench.same(told + " find " + group, b.x.find(number, 0, 0, group), due < 0 ? due : reference.spans[group]);
        }
        Bench.same(told + " back", b.x.back(number, 0, in.length()), reference.find(in, in.length(), 1000, true));
    }
}
