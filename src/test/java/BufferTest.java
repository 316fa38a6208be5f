import java.util.ArrayList;
import java.util.HashMap;
import java.util.List;

/** Buffers, templates, marks, undo and macros under calls made by chance, held against a plain model. */
public final class BufferTest {
    private static final String[] PATTERNS = {
        "", "a", "(a)(b)?", "(?<x>[a-c])(?<y>\\d)?", "\\b", "(?i)b+", ".", "(?:a+)+$", "$", "(?=(a))", "[^a]", "\\w+", "(a)|(b)|(c)",
        "(?:a*)*b1", "a(*C)b|b",
    };
    private static final String[] TOKENS = {
        "a", "B", "c1", "$0", "$1", "$2", "$9", "${x}", "${y}", "\\U", "\\L", "\\E", "\\#", "\\n", "\\$", "\\\\", "\\?", "\\_", "}", "|",
        "{", "?1{", "?2{", "?0{", "?3{", "$", "${", "\\a", "?", "\\ ",
    };
    private static final String[] GOOD = {
        "a", "B", "", "$0", "$1", "$2", "${x}", "\\U", "\\L", "\\E", "\\#", "<", "|", "}", "?1{x}", "?1{$1|no}", "?2{\\U|\\Lq}", "?9{a|B${x}}",
    };
    private static final String SIGNS = "aaabbc1A \n";

    private static final class Edit {
        final int buffer;
        final int from;
        final String was;
        final String is;

        Edit(int buffer, int from, String was, String is) {
            this.buffer = buffer;
            this.from = from;
            this.was = was;
            this.is = is;
        }
    }

    private final Chance chance;
    private final Bench b = new Bench();
    private final StringBuilder log = new StringBuilder();
    private final String[] texts = {"", "", ""};
    private final List<int[]> marks = new ArrayList<>();
    private final List<List<Edit>> undone = new ArrayList<>();
    private final List<List<Edit>> done = new ArrayList<>();
    private List<Edit> open = null;
    private final List<Reference> patterns = new ArrayList<>();
    private final List<String> templates = new ArrayList<>();
    private final List<List<int[]>> macros = new ArrayList<>();
    private List<int[]> recorded = null;

    private BufferTest(int seed) {
        chance = new Chance(seed);
    }

    public static void main(String[] args) {
        int runs = args.length > 0 ? Integer.parseInt(args[0]) : 3000;
        Thread deep = new Thread(null, () -> {
            for (int run = 0; run < runs && Bench.wrong < 5; run++) {
                new BufferTest(run).run();
            }
        }, "deep", 1L << 30);
        deep.start();
        try {
            deep.join();
        } catch (InterruptedException e) {
            Bench.wrong++;
        }
        Bench.end();
    }

    private void run() {
        for (int i = 0; i < 4; i++) {
            String told = chance.of(PATTERNS);
            patterns.add(Reference.read(told, new HashMap<>(), (char) 0));
            b.pattern(told);
            log.append("pattern ").append(told).append('\n');
        }
        for (int i = 0; i < 4; i++) {
            makeTemplate();
        }
        for (int i = 0; i < 40 && Bench.wrong == 0; i++) {
            turn();
            compare();
        }
        if (Bench.wrong != 0) {
            System.out.println(log);
        }
    }

    private void makeTemplate() {
        StringBuilder made = new StringBuilder();
        int tokens = chance.below(5);
        boolean isGood = chance.one(2);
        for (int i = 0; i < tokens; i++) {
            made.append(chance.of(isGood ? GOOD : TOKENS));
        }
        String told = made.toString();
        log.append("template ").append(told).append('\n');
        boolean due = isTemplate(told);
        int answered = b.template(told);
        Bench.same("template " + told, answered, due ? templates.size() : -1);
        if (due) {
            templates.add(told);
        }
    }

    /** A template as one regular expression. */
    private static boolean isTemplate(String told) {
        String plain = "\\$\\d|\\$\\{[a-z]\\}|\\\\[ULEn]|\\\\[\\x21-\\x7e&&[^A-Za-z0-9]]";
        String inner = "(?:" + plain + "|[^\\\\$?|}])*";
        return told.matches("(?s)(?:" + plain + "|[^\\\\$?]|\\?\\d\\{" + inner + "(?:\\|" + inner + ")?\\})*");
    }

    /** What a template makes of the match of a reference; the case that letters have goes on. */
    private String fill(String told, Reference match, String in, int number) {
        StringBuilder out = new StringBuilder();
        mode = 'E';
        fillPart(told, match, in, number, out);
        return out.toString();
    }

    private char mode;

    private void fillPart(String told, Reference match, String in, int number, StringBuilder out) {
        int i = 0;
        while (i < told.length()) {
            char c = told.charAt(i);
            char d = i + 1 < told.length() ? told.charAt(i + 1) : 0;
            if (c == '\\') {
                i += 2;
                if (d == 'U' || d == 'L' || d == 'E') {
                    mode = d;
                } else {
                    put(d == 'n' ? "\n" : d == '#' ? "" + number : "" + d, out);
                }
            } else if (c == '$') {
                boolean isName = d == '{';
                Integer group = isName ? match.names.get(told.charAt(i + 2)) : Integer.valueOf(d - '0');
                i += isName ? 4 : 2;
                int span = group == null || group > match.groups ? -3 : match.spans[group];
                put(span < 0 ? "" : in.substring(span / 1000, span % 1000), out);
            } else if (c == '?') {
                int end = find(told, i + 3, "}");
                int bar = find(told, i + 3, "|}");
                String yes = told.substring(i + 3, bar);
                String no = bar < end ? told.substring(bar + 1, end) : "";
                int group = d - '0';
                fillPart(group <= match.groups && match.spans[group] >= 0 ? yes : no, match, in, number, out);
                i = end + 1;
            } else {
                put("" + c, out);
                i++;
            }
        }
    }

    private static int find(String told, int from, String signs) {
        int i = from;
        while (signs.indexOf(told.charAt(i)) < 0) {
            i += told.startsWith("${", i) ? 4 : told.charAt(i) == '\\' || told.charAt(i) == '$' ? 2 : 1;
        }
        return i;
    }

    private void put(String piece, StringBuilder out) {
        out.append(mode == 'U' ? piece.toUpperCase() : mode == 'L' ? piece.toLowerCase() : piece);
    }

    private void turn() {
        switch (chance.below(11)) {
            case 0:
            case 1:
                doFill();
                break;
            case 2:
            case 3:
            case 4:
                doReplace();
                break;
            case 5:
                doMark();
                break;
            case 6:
                doOpen();
                break;
            case 7:
            case 8:
                doUndo(chance.one(2));
                break;
            case 9:
                doRecord();
                break;
            default:
                doPlay();
        }
    }

    private void doFill() {
        StringBuilder made = new StringBuilder();
        int length = chance.one(6) ? 70 + chance.below(14) : chance.below(12);
        for (int i = 0; i < length; i++) {
            made.append(chance.of(SIGNS));
        }
        int buffer = chance.below(3);
        log.append("fill ").append(buffer).append(' ').append(made).append('\n');
        b.draft(made.toString());
        if (length > 80) {
            Bench.fails("fill", IllegalStateException.class, () -> b.x.fill(buffer));
            return;
        }
        Bench.same("fill", b.x.fill(buffer), length);
        List<Edit> edits = new ArrayList<>();
        edits.add(new Edit(buffer, 0, texts[buffer], made.toString()));
        perform(edits);
    }

    private void perform(List<Edit> edits) {
        for (Edit edit : edits) {
            apply(edit.buffer, edit.from, edit.was, edit.is);
        }
        if (edits.isEmpty()) {
            return;
        }
        undone.clear();
        if (open != null) {
            open.addAll(edits);
        } else {
            done.add(edits);
        }
    }

    private void apply(int buffer, int a, String was, String is) {
        String text = texts[buffer];
        int to = a + was.length();
        if (!text.startsWith(was, a)) {
            throw new IllegalStateException("the model is wrong");
        }
        texts[buffer] = text.substring(0, a) + is + text.substring(to);
        for (int[] mark : marks) {
            int place = mark[1];
            boolean isRight = mark[2] == 1;
            if (mark[0] != buffer || place < a || place == a && !isRight) {
                continue;
            }
            if (place >= to) {
                mark[1] += is.length() - (to - a);
            } else {
                mark[1] = isRight ? a + is.length() : a;
            }
        }
    }

    /** The edits of a replacement in a text, null if it is not possible. */
    private List<Edit> edits(int pattern, int template, int buffer, int most, String in) {
        Reference match = patterns.get(pattern);
        List<Edit> edits = new ArrayList<>();
        int from = 0;
        int length = in.length();
        while (edits.size() < most && from <= in.length()) {
            int span = match.find(in, from, 1000, false);
            if (span == Reference.FAR) {
                return null;
            }
            if (span < 0) {
                break;
            }
            String put = fill(templates.get(template), match, in, edits.size() + 1);
            int start = span / 1000;
            int end = span % 1000;
            edits.add(0, new Edit(buffer, start, in.substring(start, end), put));
            length += put.length() - (end - start);
            from = end > start ? end : end + 1;
        }
        return length > 80 ? null : edits;
    }

    private static String after(List<Edit> edits, String in) {
        String text = in;
        for (Edit edit : edits) {
            text = text.substring(0, edit.from) + edit.is + text.substring(edit.from + edit.was.length());
        }
        return text;
    }

    private void doReplace() {
        if (templates.isEmpty()) {
            return;
        }
        int pattern = chance.below(patterns.size());
        int template = chance.below(templates.size());
        int buffer = chance.below(3);
        int most = 1 + (chance.one(2) ? 99 : chance.below(4));
        log.append("replace ").append(pattern + " " + template + " " + buffer + " " + most).append('\n');
        List<Edit> edits = edits(pattern, template, buffer, most, texts[buffer]);
        if (edits == null || recorded != null && recorded.size() == 10) {
            Bench.fails("replace", IllegalStateException.class, () -> b.x.replace(pattern, template, buffer, most));
            return;
        }
        Bench.same("replace", b.x.replace(pattern, template, buffer, most), edits.size());
        perform(edits);
        if (recorded != null) {
            recorded.add(new int[] {pattern, template, most});
        }
    }

    private void doMark() {
        int buffer = chance.below(3);
        int place = chance.below(texts[buffer].length() + 1);
        boolean isRight = chance.one(2);
        log.append("mark ").append(buffer + " " + place + " " + isRight).append('\n');
        if (marks.size() == 12) {
            Bench.fails("mark", IllegalStateException.class, () -> b.x.mark(buffer, place, isRight));
            return;
        }
        Bench.same("mark", b.x.mark(buffer, place, isRight), marks.size());
        marks.add(new int[] {buffer, place, isRight ? 1 : 0});
    }

    private void doOpen() {
        boolean isShut = open != null;
        log.append(isShut ? "shut\n" : "open\n");
        if (!isShut) {
            Bench.same("open", b.x.open(), done.size());
            open = new ArrayList<>();
            Bench.fails("open", IllegalStateException.class, () -> b.x.open());
            return;
        }
        if (!open.isEmpty()) {
            done.add(open);
        }
        open = null;
        Bench.same("shut", b.x.shut(), done.size());
        Bench.fails("shut", IllegalStateException.class, () -> b.x.shut());
    }

    private void doUndo(boolean isRedo) {
        log.append(isRedo ? "redo\n" : "undo\n");
        List<List<Edit>> from = isRedo ? undone : done;
        if (open != null || from.isEmpty()) {
            Bench.fails("undo", IllegalStateException.class, () -> isRedo ? b.x.redo() : b.x.undo());
            return;
        }
        List<Edit> group = from.remove(from.size() - 1);
        Bench.same("undo", isRedo ? b.x.redo() : b.x.undo(), group.size());
        for (int i = 0; i < group.size(); i++) {
            Edit edit = group.get(isRedo ? i : group.size() - 1 - i);
            apply(edit.buffer, edit.from, isRedo ? edit.was : edit.is, isRedo ? edit.is : edit.was);
        }
        (isRedo ? done : undone).add(group);
    }

    private void doRecord() {
        log.append("record\n");
        if (recorded != null) {
            macros.add(recorded);
            recorded = null;
            Bench.same("record", b.x.record(), macros.size() - 1);
        } else if (macros.size() == 6) {
            Bench.fails("record", IllegalStateException.class, () -> b.x.record());
        } else {
            recorded = new ArrayList<>();
            Bench.same("record", b.x.record(), -1);
        }
    }

    private void doPlay() {
        if (macros.isEmpty()) {
            return;
        }
        int macro = chance.below(macros.size());
        int buffer = chance.below(3);
        log.append("play ").append(macro + " " + buffer).append('\n');
        List<Edit> all = new ArrayList<>();
        String text = texts[buffer];
        for (int[] told : macros.get(macro)) {
            List<Edit> edits = edits(told[0], told[1], buffer, told[2], text);
            if (edits == null) {
                Bench.fails("play", IllegalStateException.class, () -> b.x.play(macro, buffer));
                return;
            }
            text = after(edits, text);
            all.addAll(edits);
        }
        Bench.same("play", b.x.play(macro, buffer), all.size());
        perform(all);
    }

    private void compare() {
        for (int i = 0; i < 3; i++) {
            Bench.same("buffer " + i, b.text(i), texts[i]);
        }
        for (int i = 0; i < marks.size(); i++) {
            Bench.same("place " + i, b.x.place(i), marks.get(i)[1]);
        }
    }
}
