import java.util.Arrays;

/**
 * A search-and-mend bench.
 *
 * <p>Patterns are read from a draft; three engines find with them in buffers; templates replace what is
 * found; marks, undo by groups, macros and streams stand beside that.
 */
public final class MendBench {
    public static final int NONE = -1, TOO_FAR = -2, UNSET = -3, NOT_TAKEN = -4, NOT_YET = -5;

    private static final int MOST_DRAFT = 120, MOST_SIGNS = 80, LETTERS = 26;
    private static final int MOST_PATTERNS = 12, MOST_TEMPLATES = 8, MOST_MACROS = 6, MOST_STREAMS = 4;
    private static final int MOST_REPLACED = 100, MOST_REPLACEMENTS = 10, REPLACEMENT = 3;
    private static final int NEW_LINE = 10;

    private final Text draft = new Text();
    private final Reader reader = new Reader();
    private final Facts facts = new Facts();
    /** What parts are read as: of them their texts alone are kept. */
    private final Pattern spare = new Pattern();
    // The rows of all that a bench can ever keep are made with it, and none in its calls.
    private final Pattern[] patterns = new Pattern[MOST_PATTERNS];
    private int patternCount;
    private final Text[] templates = new Text[MOST_TEMPLATES];
    private int templateCount;
    private final Buffers buffers = new Buffers();
    private final Mender mender = new Mender();
    private final Search search = new Search();
    private final Threads threads = new Threads(Threads.ALL_GROUPS);
    private final Threads automaton = new Threads(Threads.START_ALONE);
    // A macro is a row of its replacements, each with a pattern, a template, and how many matches.
    private final int[][] macros = new int[MOST_MACROS][REPLACEMENT * MOST_REPLACEMENTS];
    private final int[] macroLengths = new int[MOST_MACROS];
    private int macroCount;
    private boolean isRecording;
    private final Stream[] streams = new Stream[MOST_STREAMS];
    private int streamCount;

    /** Creates a bench with an empty draft, empty buffers, and without patterns. */
    public MendBench() {
        for (int i = 0; i < MOST_PATTERNS; i++) {
            patterns[i] = new Pattern();
        }
        for (int i = 0; i < MOST_TEMPLATES; i++) {
            templates[i] = new Text();
        }
        for (int i = 0; i < MOST_STREAMS; i++) {
            streams[i] = new Stream();
        }
    }

    // ---- the draft, patterns and templates

    public int type(int four) throws IllegalArgumentException, IllegalStateException {
        int told = countSigns(four);
        if (told == 0) {
            throw new IllegalArgumentException("no character, or one that texts do not have");
        }
        if (draft.count + told > MOST_DRAFT) {
            throw new IllegalStateException("the draft has no room for that");
        }
        for (int i = 0; i < told; i++) {
            draft.add((four >>> (8 * i)) & 255);
        }
        return draft.count;
    }

    public int clear() {
        int had = draft.count;
        draft.count = 0;
        return had;
    }

    public int part(int letter) throws IllegalArgumentException {
        if (!isLower(letter)) {
            throw new IllegalArgumentException("a part has a lower letter as its name");
        }
        if (!reader.read(draft, spare, letter)) {
            return NONE;
        }
        reader.keepPart(letter, draft);
        draft.count = 0;
        return reader.nodes;
    }

    public int pattern() throws IllegalStateException {
        if (patternCount >= MOST_PATTERNS) {
            throw new IllegalStateException("there are 12 patterns");
        }
        Pattern next = patterns[patternCount];
        if (!reader.read(draft, next, NONE)) {
            return NONE;
        }
        facts.learn(next);
        draft.count = 0;
        patternCount++;
        return patternCount - 1;
    }

    public int template() throws IllegalStateException {
        if (templateCount >= MOST_TEMPLATES) {
            throw new IllegalStateException("there are 8 templates");
        }
        if (!Mender.isTemplate(draft)) {
            return NONE;
        }
        templates[templateCount].copy(draft);
        draft.count = 0;
        templateCount++;
        return templateCount - 1;
    }

    // ---- facts

    public int groups(int pattern) throws IndexOutOfBoundsException {
        Pattern told = patternAt(pattern);
        if (told == null) {
            throw new IndexOutOfBoundsException("no such pattern");
        }
        return 10 * told.groups + (told.isThreaded ? 1 : 0) + (told.isAutomatic ? 2 : 0);
    }

    public int least(int pattern) throws IndexOutOfBoundsException {
        Pattern told = patternAt(pattern);
        if (told == null) {
            throw new IndexOutOfBoundsException("no such pattern");
        }
        return told.leastLength;
    }

    public boolean begins(int pattern, int code) throws IndexOutOfBoundsException, IllegalArgumentException {
        Pattern told = patternAt(pattern);
        if (told == null) {
            throw new IndexOutOfBoundsException("no such pattern");
        }
        if (!isSign(code)) {
            throw new IllegalArgumentException("no character of texts");
        }
        return told.leastLength == 0 || hasSign(told.firstLow, told.firstHigh, code);
    }

    public int literal(int pattern, int index) throws IndexOutOfBoundsException, IllegalArgumentException {
        Pattern told = patternAt(pattern);
        if (told == null) {
            throw new IndexOutOfBoundsException("no such pattern");
        }
        if (index < 0) {
            throw new IllegalArgumentException("an index below 0");
        }
        return told.longestRun.at(index);
    }

    public int runaway(int pattern) throws IndexOutOfBoundsException {
        Pattern told = patternAt(pattern);
        if (told == null) {
            throw new IndexOutOfBoundsException("no such pattern");
        }
        return told.runsBy;
    }

    // ---- finding

    public int find(int pattern, int buffer, int from, int group) throws IndexOutOfBoundsException {
        if (!isSearch(pattern, buffer, from, group)) {
            throw new IndexOutOfBoundsException("no such pattern, buffer, place or group");
        }
        return findBack(pattern, buffer, from, group);
    }

    public int anew(int pattern, int buffer, int from, int group) throws IndexOutOfBoundsException {
        if (!isSearch(pattern, buffer, from, group)) {
            throw new IndexOutOfBoundsException("no such pattern, buffer, place or group");
        }
        // The engine 0 goes through the ways of all nodes in their order as it is.
        return findBack(pattern, buffer, from, group);
    }

    public int by(int engine, int pattern, int buffer, int from, int group)
            throws IndexOutOfBoundsException, IllegalArgumentException {
        if (!isSearch(pattern, buffer, from, group)) {
            throw new IndexOutOfBoundsException("no such pattern, buffer, place or group");
        }
        if (engine < 0 || engine > 2) {
            throw new IllegalArgumentException("no such engine");
        }
        if (engine == 0) {
            return findBack(pattern, buffer, from, group);
        }
        return findThreaded(engine, pattern, buffer, from, group);
    }

    public int steps(int pattern, int buffer, int from) throws IndexOutOfBoundsException {
        Pattern told = patternAt(pattern);
        Text text = buffers.textAt(buffer);
        if (told == null || text == null || from < 0 || from > text.count) {
            throw new IndexOutOfBoundsException("no such pattern, buffer or place");
        }
        return search.ahead(told, text, from) == TOO_FAR ? TOO_FAR : search.steps;
    }

    public int back(int pattern, int buffer, int from) throws IndexOutOfBoundsException {
        Pattern told = patternAt(pattern);
        Text text = buffers.textAt(buffer);
        if (told == null || text == null || from < 0 || from > text.count) {
            throw new IndexOutOfBoundsException("no such pattern, buffer or place");
        }
        return search.backwards(told, text, from);
    }

    public int matches(int pattern, int buffer) throws IndexOutOfBoundsException {
        Pattern told = patternAt(pattern);
        Text text = buffers.textAt(buffer);
        if (told == null || text == null) {
            throw new IndexOutOfBoundsException("no such pattern or buffer");
        }
        int from = 0;
        int found = 0;
        // Each match starts behind the one before, so there is one at most for each place.
        for (int turn = 0; turn <= Text.ROOM && from <= text.count; turn++) {
            int span = search.ahead(told, text, from);
            if (span < 0) {
                return span == TOO_FAR ? TOO_FAR : found;
            }
            found++;
            from = search.nextFrom();
        }
        return found;
    }

    public int match(int pattern, int buffer, int index) throws IndexOutOfBoundsException {
        Pattern told = patternAt(pattern);
        Text text = buffers.textAt(buffer);
        if (told == null || text == null || index < 0) {
            throw new IndexOutOfBoundsException("no such pattern, buffer or match");
        }
        int from = 0;
        for (int turn = 0; turn <= Text.ROOM && from <= text.count; turn++) {
            int span = search.ahead(told, text, from);
            if (span < 0) {
                break;
            }
            if (turn == index) {
                return span;
            }
            from = search.nextFrom();
        }
        throw new IndexOutOfBoundsException("not so many matches");
    }

    // ---- buffers

    public int fill(int buffer) throws IndexOutOfBoundsException, IllegalStateException {
        Text text = buffers.textAt(buffer);
        if (text == null) {
            throw new IndexOutOfBoundsException("no such buffer");
        }
        if (draft.count > MOST_SIGNS) {
            throw new IllegalStateException("the draft has more than 80 characters");
        }
        buffers.edit(buffer, 0, text.count, draft.signs, 0, draft.count);
        buffers.endCall();
        draft.count = 0;
        return text.count;
    }

    public int size(int buffer) throws IndexOutOfBoundsException {
        Text text = buffers.textAt(buffer);
        if (text == null) {
            throw new IndexOutOfBoundsException("no such buffer");
        }
        return text.count;
    }

    public char sign(int buffer, int place) throws IndexOutOfBoundsException {
        Text text = buffers.textAt(buffer);
        if (text == null || place < 0 || place >= text.count) {
            throw new IndexOutOfBoundsException("no such buffer, or no character there");
        }
        return (char) text.at(place);
    }

    public int replace(int pattern, int template, int buffer, int most)
            throws IndexOutOfBoundsException, IllegalArgumentException, IllegalStateException {
        Pattern toldPattern = patternAt(pattern);
        Text toldTemplate = templateAt(template);
        Text text = buffers.textAt(buffer);
        if (toldPattern == null || toldTemplate == null || text == null) {
            throw new IndexOutOfBoundsException("no such pattern, template or buffer");
        }
        if (most < 1 || most > MOST_REPLACED) {
            throw new IllegalArgumentException("1 to 100 matches");
        }
        if (isRecording && macroCount < MOST_MACROS && macroLengths[macroCount] >= MOST_REPLACEMENTS) {
            throw new IllegalStateException("the macro has 10 replacements");
        }
        mender.start(text);
        int replaced = mender.prepare(search, toldPattern, toldTemplate, most);
        if (replaced == NONE) {
            throw new IllegalStateException("a search is too far, or the buffer has no room");
        }
        mender.commit(buffers, buffer);
        if (isRecording) {
            recordReplacement(pattern, template, most);
        }
        return replaced;
    }

    public int mark(int buffer, int place, boolean isRight) throws IndexOutOfBoundsException, IllegalStateException {
        Text text = buffers.textAt(buffer);
        if (text == null || place < 0 || place > text.count) {
            throw new IndexOutOfBoundsException("no such buffer or place");
        }
        int number = buffers.addMark(buffer, place, isRight);
        if (number == NONE) {
            throw new IllegalStateException("there are 12 marks");
        }
        return number;
    }

    public int place(int mark) throws IndexOutOfBoundsException {
        if (mark < 0 || mark >= buffers.markCount || mark >= Buffers.MOST_MARKS) {
            throw new IndexOutOfBoundsException("no such mark");
        }
        return buffers.markPlace[mark];
    }

    // ---- groups of edits, and macros

    public int open() throws IllegalStateException {
        if (buffers.isOpen) {
            throw new IllegalStateException("a group is open");
        }
        buffers.isOpen = true;
        return buffers.done;
    }

    public int shut() throws IllegalStateException {
        if (!buffers.isOpen) {
            throw new IllegalStateException("no group is open");
        }
        buffers.isOpen = false;
        buffers.endCall();
        return buffers.done;
    }

    public int undo() throws IllegalStateException {
        if (buffers.isOpen || buffers.done == 0) {
            throw new IllegalStateException("a group is open, or there is none");
        }
        return buffers.undoGroup();
    }

    public int redo() throws IllegalStateException {
        if (buffers.isOpen || buffers.done >= buffers.all) {
            throw new IllegalStateException("a group is open, or there is none");
        }
        return buffers.redoGroup();
    }

    public int record() throws IllegalStateException {
        if (macroCount >= MOST_MACROS) {
            throw new IllegalStateException("there are 6 macros");
        }
        isRecording = !isRecording;
        if (isRecording) {
            return NONE;
        }
        macroCount++;
        return macroCount - 1;
    }

    public int play(int macro, int buffer) throws IndexOutOfBoundsException, IllegalStateException {
        Text text = buffers.textAt(buffer);
        if (macro < 0 || macro >= macroCount || macro >= MOST_MACROS || text == null) {
            throw new IndexOutOfBoundsException("no such macro or buffer");
        }
        mender.start(text);
        int[] told = macros[macro];
        int replaced = 0;
        for (int i = 0; i < macroLengths[macro] && REPLACEMENT * i + 2 < told.length; i++) {
            Pattern pattern = patternAt(told[REPLACEMENT * i]);
            Text template = templateAt(told[REPLACEMENT * i + 1]);
            boolean isThere = pattern != null && template != null;
            int more = isThere ? mender.prepare(search, pattern, template, told[REPLACEMENT * i + 2]) : NONE;
            if (more == NONE) {
                throw new IllegalStateException("one of the replacements is not possible");
            }
            replaced += more;
        }
        mender.commit(buffers, buffer);
        return replaced;
    }

    // ---- streams

    public int stream(int pattern, boolean isAnchored) throws IndexOutOfBoundsException, IllegalStateException {
        Pattern told = patternAt(pattern);
        if (told == null) {
            throw new IndexOutOfBoundsException("no such pattern");
        }
        if (!told.isAutomatic || streamCount >= MOST_STREAMS) {
            throw new IllegalStateException("the engine 2 does not take it, or there are 4 streams");
        }
        streams[streamCount].begin(told.program, isAnchored);
        streamCount++;
        return streamCount - 1;
    }

    public int feed(int stream) throws IndexOutOfBoundsException, IllegalStateException {
        Stream told = streamAt(stream);
        if (told == null) {
            throw new IndexOutOfBoundsException("no such stream");
        }
        if (told.isFinished || told.text.count + draft.count > MOST_SIGNS) {
            throw new IllegalStateException("it is finished, or its text has no room");
        }
        told.take(draft);
        draft.count = 0;
        return told.tell();
    }

    public int finish(int stream) throws IndexOutOfBoundsException, IllegalStateException {
        Stream told = streamAt(stream);
        if (told == null) {
            throw new IndexOutOfBoundsException("no such stream");
        }
        if (told.isFinished) {
            throw new IllegalStateException("it is finished");
        }
        told.isFinished = true;
        return told.tell();
    }

    public int told(int stream) throws IndexOutOfBoundsException {
        Stream told = streamAt(stream);
        if (told == null) {
            throw new IndexOutOfBoundsException("no such stream");
        }
        return told.tell();
    }

    // ---- what the calls share

    /** How many characters are told, 0 if that is none or one that texts do not have. */
    private static int countSigns(int four) {
        int told = 0;
        int rest = four;
        for (int i = 0; i < 4 && rest != 0; i++) {
            if (!isSign(rest & 255)) {
                return 0;
            }
            told++;
            rest >>>= 8;
        }
        return told;
    }

    private Pattern patternAt(int pattern) {
        return pattern >= 0 && pattern < patternCount && pattern < MOST_PATTERNS ? patterns[pattern] : null;
    }

    private Text templateAt(int template) {
        return template >= 0 && template < templateCount && template < MOST_TEMPLATES ? templates[template] : null;
    }

    private Stream streamAt(int stream) {
        return stream >= 0 && stream < streamCount && stream < MOST_STREAMS ? streams[stream] : null;
    }

    private boolean isSearch(int pattern, int buffer, int from, int group) {
        Pattern told = patternAt(pattern);
        Text text = buffers.textAt(buffer);
        return told != null && text != null && from >= 0 && from <= text.count
                && group >= 0 && group <= told.groups;
    }

    private int findBack(int pattern, int buffer, int from, int group) {
        Pattern told = patternAt(pattern);
        Text text = buffers.textAt(buffer);
        if (told == null || text == null) {
            return NONE;
        }
        int span = search.ahead(told, text, from);
        return span < 0 ? span : search.spanOf(group);
    }

    private int findThreaded(int engine, int pattern, int buffer, int from, int group) {
        Pattern told = patternAt(pattern);
        Text text = buffers.textAt(buffer);
        if (told == null || text == null) {
            return NONE;
        }
        boolean isTaken = engine == 1 ? told.isThreaded : told.isAutomatic && group == 0;
        if (!isTaken) {
            return NOT_TAKEN;
        }
        Threads engaged = engine == 1 ? threads : automaton;
        engaged.run(told.program, text, from);
        return engaged.spanOf(group);
    }

    private void recordReplacement(int pattern, int template, int most) {
        int at = macroCount < MOST_MACROS ? REPLACEMENT * macroLengths[macroCount] : NONE;
        if (at >= 0 && at + 2 < REPLACEMENT * MOST_REPLACEMENTS) {
            macros[macroCount][at] = pattern;
            macros[macroCount][at + 1] = template;
            macros[macroCount][at + 2] = most;
            macroLengths[macroCount]++;
        }
    }

    // ---- characters, and sets of them: a low half for the codes 0 to 63, a high one for 64 to 127

    private static final long ALL_LOW = 0xFFFFFFFF00000400L, ALL_HIGH = 0x7FFFFFFFFFFFFFFFL;
    private static final long DIGITS_LOW = 0x03FF000000000000L, BLANKS_LOW = 0x0000000100000400L;
    private static final long UPPERS_HIGH = 0x0000000007FFFFFEL, LOWERS_HIGH = 0x07FFFFFE00000000L;
    private static final long WORDS_HIGH = UPPERS_HIGH | LOWERS_HIGH | 0x0000000080000000L;

    private static boolean isSign(int code) {
        return code == NEW_LINE || code >= 32 && code <= 126;
    }

    private static boolean isDigit(int code) {
        return code >= '0' && code <= '9';
    }

    private static boolean isLower(int code) {
        return code >= 'a' && code <= 'z';
    }

    private static boolean isWord(int code) {
        return code >= 'a' && code <= 'z' || code >= 'A' && code <= 'Z' || code >= '0' && code <= '9' || code == '_';
    }

    /** Whether "\" ahead of it makes it stand for itself: neither a letter, nor a digit, nor a blank. */
    private static boolean isPlainBehindSlash(int code) {
        return code > ' ' && code < '0' || code > '9' && code < 'A' || code > 'Z' && code < 'a' || code > 'z' && code <= 126;
    }

    private static int lowered(int code) {
        return code >= 'A' && code <= 'Z' ? code + 32 : code;
    }

    private static int raised(int code) {
        return isLower(code) ? code - 32 : code;
    }

    private static boolean hasSign(long low, long high, int code) {
        return code >= 0 && code < 128 && ((code < 64 ? low : high) >>> (code & 63) & 1) != 0;
    }

    /** The high half with both cases of each letter in it; the low one has no letters. */
    private static long foldedHigh(long high) {
        return high | (high & UPPERS_HIGH) << 32 | (high & LOWERS_HIGH) >>> 32;
    }

    private static boolean isKindLetter(int code) {
        return code == 'd' || code == 'w' || code == 's' || code == 'D' || code == 'W' || code == 'S';
    }

    private static long kindLow(int letter) {
        switch (letter) {
            case 'd':
            case 'w':
                return DIGITS_LOW;
            case 's':
                return BLANKS_LOW;
            case 'D':
            case 'W':
                return ALL_LOW & ~DIGITS_LOW;
            default:
                return ALL_LOW & ~BLANKS_LOW;
        }
    }

    private static long kindHigh(int letter) {
        switch (letter) {
            case 'd':
            case 's':
                return 0;
            case 'w':
                return WORDS_HIGH;
            case 'W':
                return ALL_HIGH & ~WORDS_HIGH;
            default:
                return ALL_HIGH;
        }
    }

    /** A text; the edits of one replacement may make it as long as two buffers on the way. */
    private static final class Text {
        static final int ROOM = 160;
        final int[] signs = new int[ROOM];
        int count;

        /** The character behind a place, NONE if there is none. */
        int at(int place) {
            return place >= 0 && place < count && place < ROOM ? signs[place] : NONE;
        }

        void add(int sign) {
            if (count >= 0 && count < ROOM) {
                signs[count] = sign;
                count++;
            }
        }

        void copy(Text other) {
            System.arraycopy(other.signs, 0, signs, 0, ROOM);
            count = other.count;
        }

        /** Puts come characters of a source in place of gone ones. */
        void splice(int from, int gone, int[] source, int offset, int come) {
            int behind = from + gone;
            boolean isHere = from >= 0 && gone >= 0 && behind <= count && count - gone + come <= ROOM;
            if (!isHere || come < 0 || offset < 0 || offset + come > source.length) {
                return;
            }
            System.arraycopy(signs, behind, signs, from + come, count - behind);
            System.arraycopy(source, offset, signs, from, come);
            count += come - gone;
        }

        /** Whether a place is such an end or boundary. */
        boolean isSuch(int kind, int place) {
            switch (kind) {
                case Pattern.TEXT_BEGIN:
                    return place == 0;
                case Pattern.LINE_BEGIN:
                    return place == 0 || at(place - 1) == NEW_LINE;
                case Pattern.TEXT_END:
                    return place == count;
                case Pattern.LINE_END:
                    return place == count || at(place) == NEW_LINE;
                case Pattern.BOUNDARY:
                    return isWord(at(place - 1)) != isWord(at(place));
                default:
                    return isWord(at(place - 1)) == isWord(at(place));
            }
        }
    }

    /**
     * A pattern: its nodes, and the rows in it, each one behind all that it has in it; and what is known of it.
     * A row begins with the code of its first item, others that have rows with that of their first row.
     */
    private static final class Pattern {
        // 150 nodes make at most 377 of these: a possessive repeat is held as an atomic part with a row.
        static final int ROOM = 400;
        static final int SIGN = 0, TEXT_BEGIN = 1, LINE_BEGIN = 2, TEXT_END = 3, LINE_END = 4, BOUNDARY = 5;
        static final int NO_BOUNDARY = 6, GOT = 7, CONDITION = 8, CALL = 9, FAIL = 10, COMMIT = 11, SKIP = 12;
        static final int GREEDY = 13, RELUCTANT = 14, ROW = 15, WHOLE = 16, PLAIN = 17, GROUP = 18, ATOMIC = 19;
        static final int AHEAD = 20, NOT_AHEAD = 21, BEHIND = 22, NOT_BEHIND = 23;
        // What is to be done with a node: a code is 4 times the node, and this.
        static final int ENTER = 0, LEAVE = 1, ROUND = 2;

        final int[] kind = new int[ROOM];
        /** Of a repeat the rounds that have to be; the group that others have or tell. */
        final int[] low = new int[ROOM];
        /** Of a repeat the rounds that may be, or NONE; of what a group has 1 if both cases are alike. */
        final int[] high = new int[ROOM];
        final int[] child = new int[ROOM];
        final int[] sibling = new int[ROOM];
        /** The code that begins a row, or the rows of a node that has such. */
        final int[] begin = new int[ROOM];
        /** The code that goes on behind a node. */
        final int[] after = new int[ROOM];
        final long[] signsLow = new long[ROOM];
        final long[] signsHigh = new long[ROOM];
        /** The node of each group, at 0 that of the whole pattern. */
        final int[] bodies = new int[10];
        /** The group with each name, 0 if there is none. */
        final int[] names = new int[LETTERS];
        int count;
        int groups;
        final Program program = new Program();
        /** Whether the engine 1 takes it. */
        boolean isThreaded;
        /** Whether the engine 2 takes it. */
        boolean isAutomatic;
        int leastLength;
        long firstLow;
        long firstHigh;
        int runsBy;
        final Text longestRun = new Text();

        void restart() {
            count = 0;
            groups = 0;
            Arrays.fill(names, 0);
        }

        /** The number of a new node, NONE if there is no room. */
        int add(int newKind, int newLow, int newHigh) {
            if (count < 0 || count >= ROOM) {
                return NONE;
            }
            kind[count] = newKind;
            low[count] = newLow;
            high[count] = newHigh;
            child[count] = NONE;
            sibling[count] = NONE;
            begin[count] = NONE;
            after[count] = NONE;
            count++;
            return count - 1;
        }

        boolean isNode(int node) {
            return node >= 0 && node < count && node < ROOM;
        }

        int root() {
            return bodies[0];
        }

        static boolean isEnd(int kind) {
            return kind >= TEXT_BEGIN && kind <= NO_BOUNDARY;
        }

        static boolean isRepeat(int kind) {
            return kind == GREEDY || kind == RELUCTANT;
        }

        static boolean isLook(int kind) {
            return kind >= AHEAD;
        }

        static boolean hasRows(int kind) {
            return kind >= WHOLE || kind == CONDITION;
        }

        /** The only row of a part, NONE if there are several. */
        int onlyRow(int part) {
            int row = isNode(part) ? child[part] : NONE;
            return isNode(row) && sibling[row] < 0 ? row : NONE;
        }

        boolean isOneSign(int node) {
            return isNode(node) && kind[node] == SIGN
                    && Long.bitCount(signsLow[node]) + Long.bitCount(signsHigh[node]) == 1;
        }

        /** Ties each node to what comes behind it. */
        void tie() {
            for (int node = 0; node < count && node < ROOM; node++) {
                int inner = child[node];
                if (isRepeat(kind[node]) && isNode(inner)) {
                    after[inner] = 4 * node + LEAVE;
                } else if (hasRows(kind[node])) {
                    tieRows(node);
                }
            }
        }

        private void tieRows(int part) {
            int end = 4 * part + LEAVE;
            int row = child[part];
            for (int i = 0; i < ROOM && isNode(row); i++) {
                int item = child[row];
                after[row] = end;
                begin[row] = isNode(item) ? 4 * item + ENTER : end;
                for (int k = 0; k < ROOM && isNode(item); k++) {
                    after[item] = sibling[item] < 0 ? end : 4 * sibling[item] + ENTER;
                    item = sibling[item];
                }
                row = sibling[row];
            }
            int first = child[part];
            if (isNode(first)) {
                begin[part] = sibling[first] < 0 ? begin[first] : 4 * first + ENTER;
            }
        }
    }

    /** A part of a pattern that has begun and not ended as its text is read. */
    private static final class Open {
        int kind;
        int group;
        int switches;
        /** Whether it ends with a text, not by a bracket. */
        boolean isText;
        int firstRow;
        int lastRow;
        int firstItem;
        int lastItem;
        int beforeLast;
    }

    /** Reads texts as patterns. */
    private static final class Reader {
        static final int MOST_NODES = 150, MOST_GROUPS = 9, MOST_ROUNDS = 20, LEVELS = LETTERS + 2;
        static final int MOST_TURNS = 100000;
        static final int CASES = 1, DOTS = 2, LINES = 4;

        /** The texts of the parts by their letters, where there are such. */
        private final Text[] parts = new Text[LETTERS];
        private final boolean[] hasPart = new boolean[LETTERS];
        private final ClassReader classes = new ClassReader();
        private final Open[] opens = new Open[MOST_NODES + 2];
        /** The texts that are read around the one that is read now, and where they go on. */
        private final Text[] outers = new Text[LEVELS];
        private final int[] outerSpots = new int[LEVELS];
        private int level;
        private Text text;
        private int spot;
        private Pattern pattern;
        private int depth;
        private int switches;
        private int barred;
        private boolean mayRepeat;
        int nodes;

        Reader() {
            for (int i = 0; i < opens.length; i++) {
                opens[i] = new Open();
            }
            for (int i = 0; i < LETTERS; i++) {
                parts[i] = new Text();
            }
        }

        void keepPart(int letter, Text told) {
            if (isLower(letter)) {
                parts[letter - 'a'].copy(told);
                hasPart[letter - 'a'] = true;
            }
        }

        /** Whether a text is a pattern; it must not include the part with a barred letter. */
        boolean read(Text whole, Pattern into, int barredLetter) {
            text = whole;
            pattern = into;
            barred = barredLetter;
            spot = 0;
            level = 0;
            depth = NONE;
            switches = 0;
            nodes = 0;
            pattern.restart();
            begin(Pattern.WHOLE, 0, true);
            for (int turn = 0; turn < MOST_TURNS; turn++) {
                boolean isOver = spot >= text.count;
                if (isOver && level == 0) {
                    return depth == 0 && end() && resolve();
                }
                if (!(isOver ? endText() : readNext())) {
                    return false;
                }
            }
            return false;
        }

        private int peek(int further) {
            return text.at(spot + further);
        }

        private boolean readNext() {
            int sign = peek(0);
            spot++;
            switch (sign) {
                case '(':
                    return readBracket();
                case ')':
                    return depth >= 0 && depth < opens.length && !opens[depth].isText && end();
                case '|':
                    return readBar();
                case '?':
                    return addRepeat(0, 1);
                case '*':
                    return addRepeat(0, NONE);
                case '+':
                    return addRepeat(1, NONE);
                case '{':
                    return readBounds();
                case '[':
                    spot = classes.read(text, spot, isOn(CASES));
                    return spot >= 0 && addSigns(classes.low, classes.high);
                case '\\':
                    return readSlash();
                case '.':
                    return addSigns(isOn(DOTS) ? ALL_LOW : ALL_LOW & ~(1L << NEW_LINE), ALL_HIGH);
                case '^':
                    return addNode(isOn(LINES) ? Pattern.LINE_BEGIN : Pattern.TEXT_BEGIN, 0, 0);
                case '$':
                    return addNode(isOn(LINES) ? Pattern.LINE_END : Pattern.TEXT_END, 0, 0);
                default:
                    return addSign(sign);
            }
        }

        private boolean isOn(int bit) {
            return (switches & bit) != 0;
        }

        // -- nodes

        private boolean countNode() {
            nodes++;
            return nodes <= MOST_NODES;
        }

        private boolean addNode(int kind, int low, int high) {
            if (!countNode()) {
                return false;
            }
            mayRepeat = true;
            return addItem(pattern.add(kind, low, high));
        }

        private boolean addSign(int sign) {
            long bit = 1L << (sign & 63);
            long high = sign < 64 ? 0 : bit;
            return addSigns(sign < 64 ? bit : 0, isOn(CASES) ? foldedHigh(high) : high);
        }

        private boolean addSigns(long low, long high) {
            int node = countNode() ? pattern.add(Pattern.SIGN, 0, 0) : NONE;
            if (!pattern.isNode(node)) {
                return false;
            }
            pattern.signsLow[node] = low;
            pattern.signsHigh[node] = high;
            mayRepeat = true;
            return addItem(node);
        }

        private boolean addItem(int node) {
            if (!pattern.isNode(node) || depth < 0 || depth >= opens.length) {
                return false;
            }
            Open open = opens[depth];
            if (pattern.isNode(open.lastItem)) {
                pattern.sibling[open.lastItem] = node;
            } else {
                open.firstItem = node;
            }
            open.beforeLast = open.lastItem;
            open.lastItem = node;
            return true;
        }

        private boolean addRepeat(int least, int most) {
            if (!mayRepeat || depth < 0 || depth >= opens.length || !countNode()) {
                return false;
            }
            mayRepeat = false;
            int style = peek(0);
            if (style == '?' || style == '+') {
                spot++;
            }
            Open open = opens[depth];
            int loop = pattern.add(style == '?' ? Pattern.RELUCTANT : Pattern.GREEDY, least, most);
            if (!pattern.isNode(loop)) {
                return false;
            }
            pattern.child[loop] = open.lastItem;
            int item = style == '+' ? enclose(loop) : loop;
            if (!pattern.isNode(item)) {
                return false;
            }
            if (pattern.isNode(open.beforeLast)) {
                pattern.sibling[open.beforeLast] = item;
            } else {
                open.firstItem = item;
            }
            open.lastItem = item;
            return true;
        }

        /** A possessive repeat is an atomic part with the greedy one in it, in all that can be told of it. */
        private int enclose(int loop) {
            int row = pattern.add(Pattern.ROW, 0, 0);
            int part = pattern.add(Pattern.ATOMIC, 0, 0);
            if (pattern.isNode(row) && pattern.isNode(part)) {
                pattern.child[row] = loop;
                pattern.child[part] = row;
            }
            return part;
        }

        private boolean readBounds() {
            int least = readNumber();
            int most = least;
            if (peek(0) == ',') {
                spot++;
                most = peek(0) == '}' ? NONE : readNumber();
            }
            boolean isEnded = peek(0) == '}';
            spot++;
            if (!isEnded || least < 0 || least > MOST_ROUNDS || most > MOST_ROUNDS) {
                return false;
            }
            return (most == NONE || most >= least) && addRepeat(least, most);
        }

        /** A number of one or two digits, NONE if there is none. */
        private int readNumber() {
            if (!isDigit(peek(0))) {
                return NONE;
            }
            int number = peek(0) - '0';
            spot++;
            if (isDigit(peek(0))) {
                number = 10 * number + peek(0) - '0';
                spot++;
            }
            return number;
        }

        private boolean readSlash() {
            int sign = peek(0);
            spot++;
            if (isKindLetter(sign)) {
                return addSigns(kindLow(sign), kindHigh(sign));
            }
            if (sign >= '1' && sign <= '9') {
                return addNode(Pattern.GOT, sign - '0', isOn(CASES) ? 1 : 0);
            }
            switch (sign) {
                case 'n':
                    return addSign(NEW_LINE);
                case 'b':
                    return addNode(Pattern.BOUNDARY, 0, 0);
                case 'B':
                    return addNode(Pattern.NO_BOUNDARY, 0, 0);
                case 'A':
                    return addNode(Pattern.TEXT_BEGIN, 0, 0);
                case 'z':
                    return addNode(Pattern.TEXT_END, 0, 0);
                case 'k':
                    return readName();
                default:
                    return isPlainBehindSlash(sign) && addSign(sign);
            }
        }

        /** The group is known at the end alone: names may come later. */
        private boolean readName() {
            int name = peek(1);
            if (peek(0) != '<' || !isLower(name) || peek(2) != '>') {
                return false;
            }
            spot += 3;
            return addNode(Pattern.GOT, -(name - 'a') - 1, isOn(CASES) ? 1 : 0);
        }

        // -- parts

        private boolean begin(int kind, int group, boolean isText) {
            if (depth + 1 < 0 || depth + 1 >= opens.length) {
                return false;
            }
            depth++;
            Open open = opens[depth];
            open.kind = kind;
            open.group = group;
            open.switches = switches;
            open.isText = isText;
            open.firstRow = NONE;
            open.lastRow = NONE;
            open.firstItem = NONE;
            open.lastItem = NONE;
            open.beforeLast = NONE;
            mayRepeat = false;
            return true;
        }

        private boolean endRow(Open open) {
            int row = pattern.add(Pattern.ROW, 0, 0);
            if (!pattern.isNode(row)) {
                return false;
            }
            pattern.child[row] = open.firstItem;
            if (pattern.isNode(open.lastRow)) {
                pattern.sibling[open.lastRow] = row;
            } else {
                open.firstRow = row;
            }
            open.lastRow = row;
            open.firstItem = NONE;
            open.lastItem = NONE;
            open.beforeLast = NONE;
            mayRepeat = false;
            return true;
        }

        private boolean end() {
            if (depth < 0 || depth >= opens.length) {
                return false;
            }
            Open open = opens[depth];
            int part = endRow(open) ? pattern.add(open.kind, open.group, 0) : NONE;
            if (!pattern.isNode(part)) {
                return false;
            }
            pattern.child[part] = open.firstRow;
            boolean hasBody = open.kind == Pattern.GROUP || open.kind == Pattern.WHOLE;
            if (hasBody && open.group >= 0 && open.group <= MOST_GROUPS) {
                pattern.bodies[open.group] = part;
            }
            switches = open.switches;
            depth--;
            mayRepeat = true;
            return depth < 0 || addItem(part);
        }

        private boolean readBar() {
            if (depth < 0 || depth >= opens.length || !countNode()) {
                return false;
            }
            Open open = opens[depth];
            if (open.kind == Pattern.CONDITION && open.firstRow >= 0) {
                return false;
            }
            return endRow(open);
        }

        private boolean readBracket() {
            if (peek(0) == '*') {
                return readVerb();
            }
            if (peek(0) != '?') {
                return beginGroup();
            }
            switch (peek(1)) {
                case ':':
                    return beginPart(2, Pattern.PLAIN, 0);
                case '>':
                    return beginPart(2, Pattern.ATOMIC, 0);
                case '=':
                    return beginPart(2, Pattern.AHEAD, 0);
                case '!':
                    return beginPart(2, Pattern.NOT_AHEAD, 0);
                case '<':
                    return readAngle();
                case '(':
                    return readCondition();
                case '&':
                    return readInclusion();
                case 'i':
                case 's':
                case 'm':
                case '-':
                    return readSwitches();
                default:
                    return readCall();
            }
        }

        private boolean beginPart(int signs, int kind, int group) {
            spot += signs;
            return countNode() && begin(kind, group, false);
        }

        private boolean beginGroup() {
            if (pattern.groups >= MOST_GROUPS) {
                return false;
            }
            pattern.groups++;
            return beginPart(0, Pattern.GROUP, pattern.groups);
        }

        private boolean readAngle() {
            int sign = peek(2);
            if (sign == '=') {
                return beginPart(3, Pattern.BEHIND, 0);
            }
            if (sign == '!') {
                return beginPart(3, Pattern.NOT_BEHIND, 0);
            }
            if (!isLower(sign) || peek(3) != '>' || pattern.names[sign - 'a'] != 0) {
                return false;
            }
            spot += 4;
            boolean isBegun = beginGroup();
            pattern.names[sign - 'a'] = pattern.groups;
            return isBegun;
        }

        private boolean readCondition() {
            int sign = peek(2);
            return sign >= '1' && sign <= '9' && peek(3) == ')' && beginPart(4, Pattern.CONDITION, sign - '0');
        }

        private boolean readCall() {
            int sign = peek(1);
            if (!isDigit(sign) || peek(2) != ')') {
                return false;
            }
            spot += 3;
            return addNode(Pattern.CALL, sign - '0', 0);
        }

        private boolean readVerb() {
            int sign = peek(1);
            if (peek(2) != ')' || sign != 'F' && sign != 'C' && sign != 'S') {
                return false;
            }
            spot += 3;
            boolean isAdded = addNode(sign == 'F' ? Pattern.FAIL : sign == 'C' ? Pattern.COMMIT : Pattern.SKIP, 0, 0);
            mayRepeat = false;
            return isAdded;
        }

        private boolean readSwitches() {
            int on = 0;
            int off = 0;
            boolean isOff = false;
            int ahead = 1;
            for (int turn = 0; turn < Text.ROOM; turn++) {
                int bit = switchOf(peek(ahead));
                if (bit == 0 && (peek(ahead) != '-' || isOff)) {
                    break;
                }
                if (isOff) {
                    off |= bit;
                } else {
                    on |= bit;
                    isOff = bit == 0;
                }
                ahead++;
            }
            int sign = peek(ahead);
            if ((isOff ? off : on) == 0 || sign != ')' && sign != ':') {
                return false;
            }
            spot += ahead + 1;
            if (sign == ':' && !beginPart(0, Pattern.PLAIN, 0)) {
                return false;
            }
            switches = (switches | on) & ~off;
            mayRepeat = false;
            return true;
        }

        private static int switchOf(int letter) {
            return letter == 'i' ? CASES : letter == 's' ? DOTS : letter == 'm' ? LINES : 0;
        }

        private boolean readInclusion() {
            int letter = peek(2);
            if (!isLower(letter) || peek(3) != ')' || letter == barred) {
                return false;
            }
            if (!hasPart[letter - 'a'] || level < 0 || level >= LEVELS || !countNode()) {
                return false;
            }
            spot += 4;
            outers[level] = text;
            outerSpots[level] = spot;
            level++;
            text = parts[letter - 'a'];
            spot = 0;
            return begin(Pattern.PLAIN, 0, true);
        }

        private boolean endText() {
            if (depth < 0 || depth >= opens.length || !opens[depth].isText || !end()) {
                return false;
            }
            level--;
            Text outer = level >= 0 && level < LEVELS ? outers[level] : null;
            if (outer == null) {
                return false;
            }
            text = outer;
            spot = outerSpots[level];
            return true;
        }

        /** Whether all groups and names that are told are there; names become groups, and nodes are tied. */
        private boolean resolve() {
            for (int node = 0; node < pattern.count && node < Pattern.ROOM; node++) {
                int kind = pattern.kind[node];
                if (kind == Pattern.GOT && pattern.low[node] < 0) {
                    int name = -pattern.low[node] - 1;
                    pattern.low[node] = name < LETTERS ? pattern.names[name] : 0;
                    if (pattern.low[node] == 0) {
                        return false;
                    }
                }
                boolean isTelling = kind == Pattern.GOT || kind == Pattern.CONDITION || kind == Pattern.CALL;
                if (isTelling && pattern.low[node] > pattern.groups) {
                    return false;
                }
            }
            pattern.tie();
            return true;
        }
    }

    /** Reads classes; those that are not ended stand on a stack. */
    private static final class ClassReader {
        static final int LEVELS = 128;
        private final long[] totalLow = new long[LEVELS];
        private final long[] totalHigh = new long[LEVELS];
        private final long[] operandLow = new long[LEVELS];
        private final long[] operandHigh = new long[LEVELS];
        private final boolean[] hasOperand = new boolean[LEVELS];
        private final boolean[] isOther = new boolean[LEVELS];
        /** The sign ahead of the operand that is read: 0, "&" or "-". */
        private final int[] joint = new int[LEVELS];
        private int level;
        private Text text;
        private int spot;
        private boolean isFolding;
        long low;
        long high;

        /** The spot behind the class whose "[" is ahead of the spot from, NONE if it is none. */
        int read(Text whole, int from, boolean bothCases) {
            text = whole;
            spot = from;
            isFolding = bothCases;
            level = NONE;
            if (!begin()) {
                return NONE;
            }
            for (int turn = 0; turn < Text.ROOM; turn++) {
                if (level < 0) {
                    return spot;
                }
                if (!readElement()) {
                    return NONE;
                }
            }
            return NONE;
        }

        private boolean begin() {
            if (level + 1 < 0 || level + 1 >= LEVELS) {
                return false;
            }
            level++;
            totalLow[level] = 0;
            totalHigh[level] = 0;
            joint[level] = 0;
            beginOperand();
            isOther[level] = text.at(spot) == '^';
            if (isOther[level]) {
                spot++;
            }
            return true;
        }

        private void beginOperand() {
            if (level >= 0 && level < LEVELS) {
                operandLow[level] = 0;
                operandHigh[level] = 0;
                hasOperand[level] = false;
            }
        }

        private boolean readElement() {
            int sign = text.at(spot);
            int next = text.at(spot + 1);
            if (sign == ']') {
                spot++;
                return end();
            }
            if (sign == '[') {
                spot++;
                return begin();
            }
            if (sign == next && (sign == '&' || sign == '-')) {
                spot += 2;
                return readJoint(sign);
            }
            if (sign == '\\' && isKindLetter(next)) {
                spot += 2;
                return put(kindLow(next), kindHigh(next));
            }
            return readRange();
        }

        private boolean put(long moreLow, long moreHigh) {
            if (level < 0 || level >= LEVELS) {
                return false;
            }
            operandLow[level] |= moreLow;
            operandHigh[level] |= moreHigh;
            hasOperand[level] = true;
            return true;
        }

        private boolean readJoint(int sign) {
            if (!join()) {
                return false;
            }
            joint[level] = sign;
            beginOperand();
            return true;
        }

        /** Joins the operand to what is ahead of it, if it has something. */
        private boolean join() {
            if (level < 0 || level >= LEVELS || !hasOperand[level]) {
                return false;
            }
            if (joint[level] == '&') {
                totalLow[level] &= operandLow[level];
                totalHigh[level] &= operandHigh[level];
            } else if (joint[level] == '-') {
                totalLow[level] &= ~operandLow[level];
                totalHigh[level] &= ~operandHigh[level];
            } else {
                totalLow[level] = operandLow[level];
                totalHigh[level] = operandHigh[level];
            }
            return true;
        }

        private boolean end() {
            if (!join()) {
                return false;
            }
            low = isOther[level] ? ALL_LOW & ~totalLow[level] : totalLow[level];
            high = isOther[level] ? ALL_HIGH & ~totalHigh[level] : totalHigh[level];
            level--;
            return level < 0 || put(low, high);
        }

        private boolean readRange() {
            int first = readSingle();
            int last = first;
            if (first >= 0 && text.at(spot) == '-' && text.at(spot + 1) != '-') {
                spot++;
                last = readSingle();
            }
            if (first < 0 || last < first) {
                return false;
            }
            long rangeLow = 0;
            long rangeHigh = 0;
            for (int code = first; code <= last && code < 128; code++) {
                if (isSign(code)) {
                    rangeLow |= code < 64 ? 1L << code : 0;
                    rangeHigh |= code < 64 ? 0 : 1L << (code - 64);
                }
            }
            return put(rangeLow, isFolding ? foldedHigh(rangeHigh) : rangeHigh);
        }

        /** A single character, NONE if there is none. */
        private int readSingle() {
            int sign = text.at(spot);
            int next = text.at(spot + 1);
            if (sign == '[' || sign == ']' || sign == '-' || sign == '&' && next == '&') {
                return NONE;
            }
            spot++;
            if (sign != '\\') {
                return sign;
            }
            spot++;
            return next == 'n' ? NEW_LINE : isPlainBehindSlash(next) ? next : NONE;
        }
    }

    /** Learns what can be told of a pattern without searching. */
    private static final class Facts {
        static final int FARTHEST = 1000000, MOST_THREADED = 200;
        private final int[] least = new int[Pattern.ROOM];
        private final int[] bulk = new int[Pattern.ROOM];
        // Sets of characters, two halves for each node: those that it can begin with; those that it can be
        // just; those that it can be just by a repeat in it that has no upper bound; those by which such a
        // repeat in it may run away.
        private final long[] first = new long[2 * Pattern.ROOM];
        private final long[] just = new long[2 * Pattern.ROOM];
        private final long[] inner = new long[2 * Pattern.ROOM];
        private final long[] away = new long[2 * Pattern.ROOM];
        // Of each node where it begins in the program, and whether it is in what is repeated no times.
        private final int[] begins = new int[Pattern.ROOM];
        private final boolean[] isNever = new boolean[Pattern.ROOM];
        private final Text run = new Text();
        private Pattern pattern;

        void learn(Pattern told) {
            pattern = told;
            for (int node = 0; node < pattern.count && node < Pattern.ROOM; node++) {
                learnNode(node);
            }
            int root = pattern.root();
            if (!pattern.isNode(root)) {
                return;
            }
            pattern.leastLength = least[root];
            pattern.firstLow = first[2 * root];
            pattern.firstHigh = first[2 * root + 1];
            pattern.runsBy = lowest(away[2 * root], away[2 * root + 1]);
            findLiteral();
            pattern.isThreaded = bulk[root] <= MOST_THREADED && isPlain();
            pattern.isAutomatic = pattern.isThreaded && !hasEnds();
            if (pattern.isThreaded) {
                pattern.program.write(pattern, begins, isNever);
            }
        }

        private static int lowest(long low, long high) {
            for (int code = 0; code < 128; code++) {
                if (hasSign(low, high, code)) {
                    return code;
                }
            }
            return NONE;
        }

        private void learnNode(int node) {
            least[node] = 0;
            bulk[node] = 0;
            empty(first, node);
            empty(just, node);
            empty(inner, node);
            empty(away, node);
            int kind = pattern.kind[node];
            if (kind == Pattern.SIGN) {
                least[node] = 1;
                bulk[node] = 1;
                put(first, node, pattern.signsLow[node], pattern.signsHigh[node]);
                put(just, node, pattern.signsLow[node], pattern.signsHigh[node]);
            } else if (Pattern.isEnd(kind)) {
                bulk[node] = 1;
            } else if (kind == Pattern.GOT || kind == Pattern.CALL) {
                put(first, node, ALL_LOW, ALL_HIGH);
            } else if (Pattern.isRepeat(kind)) {
                learnRepeat(node);
            } else if (kind == Pattern.ROW) {
                learnRow(node);
            } else if (Pattern.hasRows(kind)) {
                learnPart(node);
            }
        }

        private void learnRepeat(int node) {
            int atom = pattern.child[node];
            if (!pattern.isNode(atom)) {
                return;
            }
            int low = pattern.low[node];
            int high = pattern.high[node];
            boolean isEndless = high == NONE;
            least[node] = Math.min(FARTHEST, least[atom] * low);
            int all = isEndless ? bulk[atom] * (low + 1) + 2 : (bulk[atom] + 1) * high;
            bulk[node] = Math.min(FARTHEST, all);
            if (high != 0) {
                unite(first, node, first, atom);
            }
            if (high != 0 && (low <= 1 || least[atom] == 0)) {
                unite(just, node, just, atom);
                unite(inner, node, inner, atom);
                if (isEndless) {
                    unite(inner, node, just, atom);
                }
            }
            unite(away, node, away, atom);
            if (isEndless) {
                unite(away, node, inner, atom);
            }
        }

        private void learnRow(int row) {
            int item = pattern.child[row];
            for (int i = 0; i < Pattern.ROOM && pattern.isNode(item); i++) {
                // What the row could be just so far it still can, if the item can be empty.
                if (least[item] != 0) {
                    empty(just, row);
                    empty(inner, row);
                }
                if (least[row] == 0) {
                    unite(first, row, first, item);
                    unite(just, row, just, item);
                    unite(inner, row, inner, item);
                }
                unite(away, row, away, item);
                least[row] = Math.min(FARTHEST, least[row] + least[item]);
                bulk[row] = Math.min(FARTHEST, bulk[row] + bulk[item]);
                item = pattern.sibling[item];
            }
        }

        private void learnPart(int part) {
            int kind = pattern.kind[part];
            int row = pattern.child[part];
            int rows = 0;
            int fewest = FARTHEST;
            int sum = kind == Pattern.GROUP ? 2 : 0;
            for (int i = 0; i < Pattern.ROOM && pattern.isNode(row); i++) {
                rows++;
                fewest = Math.min(fewest, least[row]);
                sum += bulk[row] + (rows > 1 ? 2 : 0);
                if (!Pattern.isLook(kind)) {
                    unite(first, part, first, row);
                    unite(just, part, just, row);
                }
                if (kind < Pattern.ATOMIC) {
                    unite(inner, part, inner, row);
                    unite(away, part, away, row);
                }
                row = pattern.sibling[row];
            }
            boolean isNothingToo = Pattern.isLook(kind) || kind == Pattern.CONDITION && rows < 2;
            least[part] = isNothingToo ? 0 : fewest;
            bulk[part] = Math.min(FARTHEST, sum);
        }

        private void empty(long[] sets, int node) {
            put(sets, node, 0, 0);
        }

        private void put(long[] sets, int node, long low, long high) {
            if (node >= 0 && 2 * node + 1 < sets.length) {
                sets[2 * node] = low;
                sets[2 * node + 1] = high;
            }
        }

        private void unite(long[] sets, int node, long[] others, int other) {
            if (node >= 0 && 2 * node + 1 < sets.length && other >= 0 && 2 * other + 1 < others.length) {
                sets[2 * node] |= others[2 * other];
                sets[2 * node + 1] |= others[2 * other + 1];
            }
        }

        /** Whether there are only nodes that threads take, and nothing empty is repeated without a bound. */
        private boolean isPlain() {
            for (int node = 0; node < pattern.count && node < Pattern.ROOM; node++) {
                int kind = pattern.kind[node];
                int inner = pattern.child[node];
                boolean isEndless = Pattern.isRepeat(kind) && pattern.high[node] == NONE;
                if (isEndless && pattern.isNode(inner) && least[inner] == 0) {
                    return false;
                }
                boolean isOther = kind >= Pattern.GOT && kind <= Pattern.SKIP || kind >= Pattern.ATOMIC;
                if (isOther) {
                    return false;
                }
            }
            return true;
        }

        private boolean hasEnds() {
            for (int node = 0; node < pattern.count && node < Pattern.ROOM; node++) {
                if (Pattern.isEnd(pattern.kind[node])) {
                    return true;
                }
            }
            return false;
        }

        /** Goes along the pattern as a row, into parts of one row, and keeps the longest run. */
        private void findLiteral() {
            pattern.longestRun.count = 0;
            run.count = 0;
            int only = pattern.onlyRow(pattern.root());
            int code = pattern.isNode(only) ? pattern.begin[only] : NONE;
            for (int turn = 0; turn < 4 * Pattern.ROOM && pattern.isNode(code >> 2); turn++) {
                int node = code >> 2;
                int kind = pattern.kind[node];
                boolean isEntered = (code & 3) == Pattern.ENTER;
                boolean isOpened = kind >= Pattern.PLAIN && kind <= Pattern.ATOMIC && pattern.onlyRow(node) >= 0;
                code = isEntered && isOpened ? pattern.begin[node] : pattern.after[node];
                if (pattern.isOneSign(node)) {
                    run.add(lowest(pattern.signsLow[node], pattern.signsHigh[node]));
                } else if (isEntered && !isOpened) {
                    keepLonger();
                }
            }
            keepLonger();
        }

        private void keepLonger() {
            if (run.count > pattern.longestRun.count) {
                pattern.longestRun.copy(run);
            }
            run.count = 0;
        }
    }

    /** The engine 0: finds by trying back. */
    private static final class Search {
        static final int MOST_STEPS = 1000, MOST_CALLS = 20, MOST_LOOKS = 40;
        static final int MOST_TURNS = 100000000;
        static final int GOES_ON = 0, FOUND = 1, MISSED = 2, STOPPED = 3, SKIPPED = 4;
        // A frame has the one around it, a tag, and two numbers. The tag is a kind, and how many calls and
        // looks are not ended there. What a group has is a frame, too: its tag is the group.
        static final int FRAME = 4, TAG = 1, ONE = 2, TWO = 3;
        // All frames that a search within its steps can need. A step has one frame at most: a repeat, a call or a
        // look that is begun its own, a round that of the rounds behind it. A group takes no step, and has two
        // frames, one as it begins and one as it ends: but it is come to once at most in each round, once in each
        // call, and once outside of these, since nothing else leads back to what is ahead; and each round and each
        // call is a step. Going back gives up the frames of what it leaves, and each start begins with none.
        static final int MOST_FRAMES = MOST_STEPS + 2 * Reader.MOST_GROUPS * (MOST_STEPS + 1);
        static final int LOOP = 0, SPAN = 1, CALLED = 2, LOOKED = 3;
        static final int KINDS = 7, CALL_BIT = 8, LOOK_BIT = 256;
        // A choice has its kind, a code, a place, a frame, what groups have, and how many cells were used.
        static final int CHOICE = 6;
        static final int TRY = 0, WALL = 1, STOP = 2, JUMP = 3;

        private Pattern pattern;
        private Text text;
        private int code;
        private int place;
        private int frame;
        private int got;
        // Frames are never changed; going back gives those up that came behind a choice.
        private final int[] cells = new int[FRAME * MOST_FRAMES];
        private int used;
        // Each choice comes with a step of its own: a row, a verb or a look that is begun, a repeat that is begun for
        // that ahead of its first round, and a round for that behind it. So there are at most as many as steps.
        private final int[] choices = new int[CHOICE * (MOST_STEPS + 2)];
        private int height;
        private boolean isFar;
        private int start;
        private int end;
        private int skipTo;
        int steps;

        /** 1000 * the start + the end of the match of a search from a place, NONE or TOO_FAR. */
        int ahead(Pattern told, Text whole, int from) {
            prepare(told, whole);
            int next = from;
            for (int turn = 0; turn <= Text.ROOM && next <= text.count; turn++) {
                int outcome = run(next);
                if (isFar) {
                    return TOO_FAR;
                }
                if (outcome == FOUND) {
                    return 1000 * start + end;
                }
                if (outcome == STOPPED) {
                    return NONE;
                }
                next = outcome == SKIPPED && skipTo > next ? skipTo : next + 1;
            }
            return NONE;
        }

        /** The same, with the place ahead of each start as the next one. */
        int backwards(Pattern told, Text whole, int from) {
            prepare(told, whole);
            for (int next = from; next >= 0; next--) {
                int outcome = run(next);
                if (isFar) {
                    return TOO_FAR;
                }
                if (outcome == FOUND) {
                    return 1000 * start + end;
                }
                if (outcome == STOPPED) {
                    return NONE;
                }
            }
            return NONE;
        }

        /** Where the search for the next match begins. */
        int nextFrom() {
            return end > start ? end : end + 1;
        }

        /** What a group has by the match that was found last, or UNSET. */
        int spanOf(int group) {
            if (group == 0) {
                return 1000 * start + end;
            }
            int has = recordOf(group);
            return has < 0 ? UNSET : 1000 * cells[has + ONE] + cells[has + TWO];
        }

        int signAt(int where) {
            return text.at(where);
        }

        int groupOf(int name) {
            return name >= 0 && name < LETTERS ? pattern.names[name] : 0;
        }

        private void prepare(Pattern told, Text whole) {
            pattern = told;
            text = whole;
            steps = 0;
            isFar = false;
        }

        private int run(int begin) {
            start = begin;
            place = begin;
            frame = NONE;
            got = NONE;
            used = 0;
            height = 0;
            code = pattern.isNode(pattern.root()) ? pattern.begin[pattern.root()] : NONE;
            boolean isOn = true;
            for (int turn = 0; turn < MOST_TURNS; turn++) {
                if (!isOn) {
                    int outcome = goBack();
                    if (outcome != GOES_ON) {
                        return outcome;
                    }
                }
                int node = code >> 2;
                int way = code & 3;
                if (!pattern.isNode(node)) {
                    return MISSED;
                }
                if (way == Pattern.LEAVE && node == pattern.root() && frame < 0) {
                    end = place;
                    return FOUND;
                }
                isOn = way == Pattern.ENTER ? enter(node) : way == Pattern.LEAVE ? leave(node) : beginRound(node);
                if (isFar) {
                    return MISSED;
                }
            }
            isFar = true;
            return MISSED;
        }

        /** Whether there is one step more. */
        private boolean takeStep() {
            if (steps >= MOST_STEPS) {
                isFar = true;
                return false;
            }
            steps++;
            return true;
        }

        // -- frames and choices

        private int push(int around, int kind, int one, int two) {
            int depths = isFrame(around) ? cells[around + TAG] & ~KINDS : 0;
            int more = kind == CALLED ? CALL_BIT : kind == LOOKED ? LOOK_BIT : 0;
            return pushCell(around, depths + more + kind, one, two);
        }

        private int pushCell(int around, int tag, int one, int two) {
            int pushed = used;
            if (pushed < 0 || pushed + FRAME > cells.length) {
                return around;
            }
            cells[pushed] = around;
            cells[pushed + TAG] = tag;
            cells[pushed + ONE] = one;
            cells[pushed + TWO] = two;
            used += FRAME;
            return pushed;
        }

        private boolean isFrame(int cell) {
            return cell >= 0 && cell + FRAME <= used && used <= cells.length;
        }

        private int callsAround() {
            return isFrame(frame) ? cells[frame + TAG] / CALL_BIT % (LOOK_BIT / CALL_BIT) : 0;
        }

        private int looksAround() {
            return isFrame(frame) ? cells[frame + TAG] / LOOK_BIT : 0;
        }

        private int recordOf(int group) {
            int has = got;
            for (int i = 0; i < MOST_FRAMES && isFrame(has); i++) {
                if (cells[has + TAG] == group) {
                    return has;
                }
                has = cells[has];
            }
            return NONE;
        }

        private void keep(int kind, int keptCode, int keptFrame) {
            int at = CHOICE * height;
            if (height < 0 || at + CHOICE > choices.length) {
                return;
            }
            choices[at] = kind;
            choices[at + 1] = keptCode;
            choices[at + 2] = place;
            choices[at + 3] = keptFrame;
            choices[at + 4] = got;
            choices[at + 5] = used;
            height++;
        }

        /** Goes on with the last choice; tells how the start has ended, if there is none. */
        private int goBack() {
            for (int turn = 0; turn < MOST_TURNS && height > 0; turn++) {
                height--;
                int at = CHOICE * height;
                if (at < 0 || at + CHOICE > choices.length) {
                    return MISSED;
                }
                int kind = choices[at];
                if (kind == TRY) {
                    code = choices[at + 1];
                    restore(at, choices[at + 2], choices[at + 3]);
                    return GOES_ON;
                }
                if (kind != WALL) {
                    // A verb: the part around it has no way, and nothing else in it is tried.
                    height = wallBelow(height);
                    if (height < 0) {
                        skipTo = choices[at + 2];
                        return kind == STOP ? STOPPED : SKIPPED;
                    }
                    at = CHOICE * height;
                }
                if (kind == WALL && beginFurther(at) || passWall(at)) {
                    return isFar ? MISSED : GOES_ON;
                }
            }
            return MISSED;
        }

        private void restore(int at, int newPlace, int newFrame) {
            if (at >= 0 && at + CHOICE <= choices.length) {
                place = newPlace;
                frame = newFrame;
                got = choices[at + 4];
                used = choices[at + 5];
            }
        }

        /** Begins the look behind of a wall one place further ahead, if that is one and can be. */
        private boolean beginFurther(int at) {
            int node = choices[at + 1] >> 2;
            boolean isBehind = pattern.isNode(node) && pattern.kind[node] >= Pattern.BEHIND;
            if (!isBehind || choices[at + 2] <= 0 || !takeStep()) {
                return isFar;
            }
            choices[at + 2]--;
            height++;
            restore(at, choices[at + 2], choices[at + 3]);
            code = pattern.begin[node];
            return true;
        }

        /** Goes on behind the look for nothing of a wall, if it is one: its pattern has no way. */
        private boolean passWall(int at) {
            int node = choices[at + 1] >> 2;
            int look = choices[at + 3];
            int kind = pattern.isNode(node) ? pattern.kind[node] : NONE;
            if (kind != Pattern.NOT_AHEAD && kind != Pattern.NOT_BEHIND || !isFrame(look)) {
                return false;
            }
            restore(at, cells[look + ONE], cells[look]);
            code = pattern.after[node];
            return true;
        }

        /** The choice with which the part around begins, NONE if there is no such part. */
        private int wallBelow(int from) {
            for (int index = from - 1; index >= 0; index--) {
                int at = CHOICE * index;
                if (at + CHOICE <= choices.length && choices[at] == WALL) {
                    return index;
                }
            }
            return NONE;
        }

        // -- nodes

        private boolean enter(int node) {
            int kind = pattern.kind[node];
            if (kind == Pattern.PLAIN) {
                code = pattern.begin[node];
                return true;
            }
            if (kind == Pattern.GROUP) {
                frame = push(frame, SPAN, place, 0);
                code = pattern.begin[node];
                return true;
            }
            if (!takeStep()) {
                return false;
            }
            if (Pattern.isEnd(kind)) {
                code = pattern.after[node];
                return text.isSuch(kind, place);
            }
            switch (kind) {
                case Pattern.SIGN:
                    code = pattern.after[node];
                    place++;
                    return hasSign(pattern.signsLow[node], pattern.signsHigh[node], text.at(place - 1));
                case Pattern.GOT:
                    return passGot(node);
                case Pattern.CONDITION:
                    return choose(node);
                case Pattern.CALL:
                    return call(node);
                case Pattern.COMMIT:
                case Pattern.SKIP:
                    keep(kind == Pattern.COMMIT ? STOP : JUMP, 0, frame);
                    code = pattern.after[node];
                    return true;
                case Pattern.GREEDY:
                case Pattern.RELUCTANT:
                    frame = push(frame, LOOP, 0, place);
                    return goRound(node);
                case Pattern.ROW:
                    if (pattern.sibling[node] >= 0) {
                        keep(TRY, 4 * pattern.sibling[node] + Pattern.ENTER, frame);
                    }
                    code = pattern.begin[node];
                    return true;
                case Pattern.FAIL:
                    return false;
                default:
                    return look(node);
            }
        }

        private boolean passGot(int node) {
            int has = recordOf(pattern.low[node]);
            if (has < 0) {
                return false;
            }
            int from = cells[has + ONE];
            int length = cells[has + TWO] - from;
            boolean isFolding = pattern.high[node] != 0;
            for (int i = 0; i < length; i++) {
                int had = text.at(from + i);
                int here = text.at(place + i);
                if (had != here && !(isFolding && here >= 0 && lowered(had) == lowered(here))) {
                    return false;
                }
            }
            place += length;
            code = pattern.after[node];
            return true;
        }

        private boolean choose(int node) {
            int row = pattern.child[node];
            if (pattern.isNode(row) && recordOf(pattern.low[node]) < 0) {
                row = pattern.sibling[row];
            }
            code = pattern.isNode(row) ? pattern.begin[row] : pattern.after[node];
            return true;
        }

        private boolean call(int node) {
            int group = pattern.low[node];
            int body = group >= 0 && group <= Reader.MOST_GROUPS ? pattern.bodies[group] : NONE;
            if (callsAround() >= MOST_CALLS || !pattern.isNode(body)) {
                return false;
            }
            frame = push(frame, CALLED, pattern.after[node], got);
            code = pattern.begin[body];
            return true;
        }

        private boolean look(int node) {
            if (looksAround() >= MOST_LOOKS) {
                return false;
            }
            frame = push(frame, LOOKED, place, height);
            keep(WALL, 4 * node, frame);
            code = pattern.begin[node];
            return true;
        }

        private boolean leave(int node) {
            int kind = pattern.kind[node];
            if (kind == Pattern.PLAIN || kind == Pattern.CONDITION) {
                code = pattern.after[node];
                return true;
            }
            if (!isFrame(frame)) {
                return false;
            }
            if (kind == Pattern.GREEDY || kind == Pattern.RELUCTANT) {
                return endRound(node);
            }
            if (kind >= Pattern.ATOMIC) {
                return endLook(node);
            }
            if ((cells[frame + TAG] & KINDS) == CALLED) {
                code = cells[frame + ONE];
                got = cells[frame + TWO];
            } else {
                got = pushCell(got, pattern.low[node], cells[frame + ONE], place);
                code = pattern.after[node];
            }
            frame = cells[frame];
            return true;
        }

        private boolean endLook(int node) {
            int kind = pattern.kind[node];
            int begun = cells[frame + ONE];
            if (kind >= Pattern.BEHIND && place != begun) {
                return false;
            }
            // With the first way the part is ended, and nothing else of it is tried.
            height = cells[frame + TWO];
            if (kind == Pattern.NOT_AHEAD || kind == Pattern.NOT_BEHIND) {
                return false;
            }
            place = kind == Pattern.ATOMIC ? place : begun;
            frame = cells[frame];
            code = pattern.after[node];
            return true;
        }

        // -- repeats: their frame has how many rounds are ended, and where the next one would begin

        private boolean goRound(int node) {
            if (!isFrame(frame)) {
                return false;
            }
            int rounds = cells[frame + ONE];
            int around = cells[frame];
            int most = pattern.high[node];
            if (rounds < pattern.low[node]) {
                code = 4 * node + Pattern.ROUND;
            } else if (most != NONE && rounds >= most) {
                frame = around;
                code = pattern.after[node];
            } else if (pattern.kind[node] == Pattern.GREEDY) {
                keep(TRY, pattern.after[node], around);
                code = 4 * node + Pattern.ROUND;
            } else {
                keep(TRY, 4 * node + Pattern.ROUND, frame);
                frame = around;
                code = pattern.after[node];
            }
            return true;
        }

        private boolean beginRound(int node) {
            code = 4 * pattern.child[node] + Pattern.ENTER;
            return takeStep();
        }

        private boolean endRound(int node) {
            int rounds = cells[frame + ONE];
            boolean isFree = pattern.high[node] == NONE && rounds >= pattern.low[node];
            if (isFree && place == cells[frame + TWO]) {
                return false;
            }
            frame = push(cells[frame], LOOP, rounds + 1, place);
            return goRound(node);
        }
    }

    /** What the engines 1 and 2 run: a pattern with its repeats written out. */
    private static final class Program {
        static final int ROOM = 208;
        static final int SIGN = 0, END = 1, JUMP = 2, FORK = 3, LATE_FORK = 4, SAVE = 5, MATCH = 6;
        final int[] op = new int[ROOM];
        /** Of jumps and forks how far they go, so that what is written can be moved and copied. */
        final int[] far = new int[ROOM];
        final long[] signsLow = new long[ROOM];
        final long[] signsHigh = new long[ROOM];
        /** Whether a match can still come from there. */
        final boolean[] isLive = new boolean[ROOM];
        int count;

        boolean isIn(int at) {
            return at >= 0 && at < count && at < ROOM;
        }

        /** Writes a pattern whose size is at most 200; the rows of work have the room of its nodes. */
        void write(Pattern pattern, int[] begins, boolean[] isNever) {
            int nodes = Math.min(pattern.count, Math.min(begins.length, isNever.length));
            findNever(pattern, isNever, nodes);
            count = 0;
            for (int node = 0; node < nodes; node++) {
                begins[node] = count;
                if (!isNever[node]) {
                    writeNode(pattern, node, begins);
                }
            }
            add(MATCH, 0, 0, 0);
            findLive();
        }

        /** What is repeated no times is not written: it could be larger than the room. */
        private void findNever(Pattern pattern, boolean[] isNever, int nodes) {
            for (int node = 0; node < nodes; node++) {
                isNever[node] = false;
            }
            for (int node = nodes - 1; node >= 0; node--) {
                boolean isOut = isNever[node] || Pattern.isRepeat(pattern.kind[node]) && pattern.high[node] == 0;
                int inner = pattern.child[node];
                for (int i = 0; i < Pattern.ROOM && isOut && pattern.isNode(inner); i++) {
                    isNever[inner] = true;
                    inner = pattern.sibling[inner];
                }
            }
        }

        private void writeNode(Pattern pattern, int node, int[] begins) {
            int kind = pattern.kind[node];
            int inner = pattern.child[node];
            if (inner >= 0 && inner < begins.length) {
                begins[node] = begins[inner];
            }
            int begin = begins[node];
            if (kind == Pattern.SIGN) {
                add(SIGN, 0, pattern.signsLow[node], pattern.signsHigh[node]);
            } else if (Pattern.isEnd(kind)) {
                add(END, kind, 0, 0);
            } else if (Pattern.isRepeat(kind)) {
                writeRepeat(begin, pattern.low[node], pattern.high[node], kind == Pattern.GREEDY ? FORK : LATE_FORK);
            } else if (kind == Pattern.ROW) {
                if (pattern.sibling[node] >= 0) {
                    insert(begin, FORK, count - begin + 2);
                    add(JUMP, 0, 0, 0);
                }
            } else {
                aimJumps(pattern, node, begins);
                if (kind == Pattern.GROUP) {
                    insert(begin, SAVE, 2 * pattern.low[node]);
                    add(SAVE, 2 * pattern.low[node] + 1, 0, 0);
                }
            }
        }

        /** The jump behind each row but the last one goes to the end of all. */
        private void aimJumps(Pattern pattern, int part, int[] begins) {
            int row = pattern.child[part];
            for (int i = 0; i < Pattern.ROOM && pattern.isNode(row); i++) {
                row = pattern.sibling[row];
                int jump = pattern.isNode(row) ? begins[row] - 1 : NONE;
                if (isIn(jump)) {
                    far[jump] = count - jump;
                }
            }
        }

        private void writeRepeat(int begin, int low, int high, int fork) {
            int length = count - begin;
            int copies = high == NONE ? low + 1 : high;
            if (copies == 0) {
                count = begin;
                return;
            }
            // The atom stands there once; it is copied from its first place, ahead of which nothing comes
            // but the fork of a first round that need not be.
            int source = begin;
            if (low == 0) {
                insert(begin, fork, high == NONE ? length + 2 : copies * (length + 1));
                source = begin + 1;
            }
            for (int i = 1; i < copies; i++) {
                if (i >= low) {
                    add(fork, high == NONE ? length + 2 : (copies - i) * (length + 1), 0, 0);
                }
                copy(source, length);
            }
            if (high == NONE) {
                add(JUMP, -(length + 1), 0, 0);
            }
        }

        private void add(int newOp, int newFar, long low, long high) {
            if (count >= 0 && count < ROOM) {
                op[count] = newOp;
                far[count] = newFar;
                signsLow[count] = low;
                signsHigh[count] = high;
                count++;
            }
        }

        private void copy(int source, int length) {
            for (int i = 0; i < length; i++) {
                int at = source + i;
                if (isIn(at)) {
                    add(op[at], far[at], signsLow[at], signsHigh[at]);
                }
            }
        }

        private void insert(int at, int newOp, int newFar) {
            int length = count - at;
            if (at < 0 || length < 0 || count >= ROOM) {
                return;
            }
            System.arraycopy(op, at, op, at + 1, length);
            System.arraycopy(far, at, far, at + 1, length);
            System.arraycopy(signsLow, at, signsLow, at + 1, length);
            System.arraycopy(signsHigh, at, signsHigh, at + 1, length);
            op[at] = newOp;
            far[at] = newFar;
            count++;
        }

        private void findLive() {
            for (int at = 0; at < ROOM; at++) {
                isLive[at] = false;
            }
            boolean isNew = true;
            for (int turn = 0; turn <= ROOM && isNew; turn++) {
                isNew = false;
                for (int at = count - 1; at >= 0; at--) {
                    if (!isLive[at] && leadsOn(at)) {
                        isLive[at] = true;
                        isNew = true;
                    }
                }
            }
        }

        private boolean leadsOn(int at) {
            boolean isNext = isIn(at + 1) && isLive[at + 1];
            boolean isFurther = isIn(at + far[at]) && isLive[at + far[at]];
            switch (op[at]) {
                case MATCH:
                    return true;
                case SIGN:
                    return isNext && (signsLow[at] != 0 || signsHigh[at] != 0);
                case JUMP:
                    return isFurther;
                case FORK:
                case LATE_FORK:
                    return isNext || isFurther;
                default:
                    return isNext;
            }
        }
    }

    /**
     * The engines 1 and 2: the threads of a program at a place, in their order. Each one has a row of slots: at
     * 0 its start, at 2 * g and behind that what the group g has.
     */
    private static final class Threads {
        static final int ALL_GROUPS = 20, START_ALONE = 1;

        private final int width;
        private final int[] rowNow;
        private int[] list = new int[Program.ROOM];
        private int[] nextList = new int[Program.ROOM];
        private int[] slots;
        private int[] nextSlots;
        private final int[] seen = new int[Program.ROOM];
        private int stamp;
        // Where to go on; below 0 a slot that gets back what it had.
        private final int[] stack = new int[4 * Program.ROOM];
        private final int[] stackOld = new int[4 * Program.ROOM];
        private int depth;
        private Program program;
        private final int[] best;
        private int bestEnd;
        private boolean isMatched;
        int count;

        Threads(int width) {
            int room = width < START_ALONE ? START_ALONE : width > ALL_GROUPS ? ALL_GROUPS : width;
            this.width = room;
            rowNow = new int[room];
            best = new int[room];
            slots = new int[room * Program.ROOM];
            nextSlots = new int[room * Program.ROOM];
        }

        void run(Program told, Text text, int from) {
            begin(told);
            for (int place = from; place <= text.count; place++) {
                settle(text, place, true);
                if (isMatched && count == 0) {
                    return;
                }
                pass(text, place);
            }
        }

        void begin(Program told) {
            program = told;
            count = 0;
            isMatched = false;
            stamp++;
        }

        /** 1000 * the start + the end of the match, or of what a group has by it; UNSET or NONE. */
        int spanOf(int group) {
            if (!isMatched) {
                return NONE;
            }
            if (group == 0) {
                return 1000 * best[0] + bestEnd;
            }
            if (group < 0 || 2 * group + 1 >= width || best[2 * group + 1] < 0) {
                return UNSET;
            }
            return 1000 * best[2 * group] + best[2 * group + 1];
        }

        /** Begins a thread at a place, behind all others, if that may be; a match ends those behind it. */
        void settle(Text text, int place, boolean mayStart) {
            if (mayStart && !isMatched) {
                Arrays.fill(rowNow, NONE);
                rowNow[0] = place;
                addThread(0, text, place);
            }
            for (int i = 0; i < count && i < Program.ROOM; i++) {
                int at = list[i];
                if (program.isIn(at) && program.op[at] == Program.MATCH) {
                    isMatched = true;
                    bestEnd = place;
                    System.arraycopy(slots, width * i, best, 0, width);
                    count = i;
                }
            }
        }

        /** Takes all threads past the character behind a place. */
        void pass(Text text, int place) {
            int had = count;
            int[] oldList = list;
            int[] oldSlots = slots;
            list = nextList;
            slots = nextSlots;
            nextList = oldList;
            nextSlots = oldSlots;
            count = 0;
            stamp++;
            int sign = text.at(place);
            for (int i = 0; i < had && i < Program.ROOM; i++) {
                int at = oldList[i];
                if (program.isIn(at) && hasSign(program.signsLow[at], program.signsHigh[at], sign)) {
                    System.arraycopy(oldSlots, width * i, rowNow, 0, width);
                    addThread(at + 1, text, place + 1);
                }
            }
        }

        /** Adds what can be reached from there without a character, each once, what is preferred first. */
        private void addThread(int first, Text text, int place) {
            depth = 0;
            push(first, 0);
            for (int turn = 0; turn < 8 * Program.ROOM && depth > 0; turn++) {
                depth--;
                int at = stack[depth];
                if (at < 0) {
                    int slot = -at - 1;
                    if (slot < width) {
                        rowNow[slot] = stackOld[depth];
                    }
                } else if (program.isIn(at) && seen[at] != stamp) {
                    seen[at] = stamp;
                    follow(at, text, place);
                }
            }
        }

        private void follow(int at, Text text, int place) {
            int far = program.far[at];
            switch (program.op[at]) {
                case Program.JUMP:
                    push(at + far, 0);
                    break;
                case Program.FORK:
                    push(at + far, 0);
                    push(at + 1, 0);
                    break;
                case Program.LATE_FORK:
                    push(at + 1, 0);
                    push(at + far, 0);
                    break;
                case Program.SAVE:
                    if (far >= 0 && far < width) {
                        push(-far - 1, rowNow[far]);
                        rowNow[far] = place;
                    }
                    push(at + 1, 0);
                    break;
                case Program.END:
                    if (text.isSuch(far, place)) {
                        push(at + 1, 0);
                    }
                    break;
                default:
                    if (program.isLive[at] && count >= 0 && count < Program.ROOM) {
                        list[count] = at;
                        System.arraycopy(rowNow, 0, slots, width * count, width);
                        count++;
                    }
            }
        }

        private void push(int at, int old) {
            if (depth >= 0 && depth < stack.length && depth < stackOld.length) {
                stack[depth] = at;
                stackOld[depth] = old;
                depth++;
            }
        }
    }

    /** A pattern that is held against a text that comes in pieces. */
    private static final class Stream {
        final Text text = new Text();
        private final Threads run = new Threads(Threads.START_ALONE);
        private boolean isAnchored;
        boolean isFinished;

        void begin(Program program, boolean fromStartAlone) {
            isAnchored = fromStartAlone;
            run.begin(program);
            run.settle(text, 0, true);
        }

        void take(Text piece) {
            for (int i = 0; i < piece.count; i++) {
                text.add(piece.at(i));
                run.pass(text, text.count - 1);
                run.settle(text, text.count, !isAnchored);
            }
        }

        /** All threads that are left could still match, and would go ahead of the match that there is. */
        int tell() {
            return !isFinished && run.count > 0 ? NOT_YET : run.spanOf(0);
        }
    }

    /** The buffers, their marks, and the edits that can be undone and redone. */
    private static final class Buffers {
        static final int BUFFERS = 3, MOST_MARKS = 12;
        // Within 512 calls there are at most 512 * 810 edits, with 512 * 1600 characters.
        static final int CHUNK = 1024, EDIT_CHUNKS = 512, SIGN_CHUNKS = 1024, MOST_GROUPS = 1024;

        private final Text[] texts = new Text[BUFFERS];
        private final int[] markBuffer = new int[MOST_MARKS];
        private final boolean[] markRight = new boolean[MOST_MARKS];
        final int[] markPlace = new int[MOST_MARKS];
        int markCount;
        private final int[][] edits = new int[EDIT_CHUNKS][];
        /** Of each edit the characters that it took, then those that it put. */
        private final byte[][] signs = new byte[SIGN_CHUNKS][];
        private final int[] groupEdits = new int[MOST_GROUPS];
        private final int[] come = new int[Text.ROOM];
        /** The edits and characters of what is not undone. */
        private int editCount;
        private int signCount;
        /** The edits behind the last group. */
        private int loose;
        /** The groups that are not undone, and those together with the ones that can be redone. */
        int done;
        int all;
        boolean isOpen;

        Buffers() {
            for (int i = 0; i < BUFFERS; i++) {
                texts[i] = new Text();
            }
        }

        Text textAt(int buffer) {
            return buffer >= 0 && buffer < BUFFERS ? texts[buffer] : null;
        }

        int addMark(int buffer, int place, boolean isRight) {
            if (markCount < 0 || markCount >= MOST_MARKS) {
                return NONE;
            }
            markBuffer[markCount] = buffer;
            markPlace[markCount] = place;
            markRight[markCount] = isRight;
            markCount++;
            return markCount - 1;
        }

        /** Makes the edits of a call a group, but for those within an open one. */
        void endCall() {
            if (isOpen || loose == 0 || done < 0 || done >= MOST_GROUPS) {
                return;
            }
            groupEdits[done] = loose;
            loose = 0;
            done++;
            all = done;
        }

        void edit(int buffer, int from, int gone, int[] source, int offset, int put) {
            Text text = textAt(buffer);
            if (text == null || gone < 0 || put < 0 || offset < 0 || offset + put > source.length) {
                return;
            }
            if (!hasRoom(gone + put)) {
                forget();
            }
            all = done;
            writeEdit(editCount, buffer + 4 * from + 1024 * gone + 262144 * put);
            for (int i = 0; i < gone; i++) {
                writeSign(signCount + i, text.at(from + i));
            }
            for (int i = 0; i < put; i++) {
                writeSign(signCount + gone + i, source[offset + i]);
            }
            loose++;
            redoEdit();
        }

        int undoGroup() {
            if (done <= 0 || done > MOST_GROUPS) {
                return 0;
            }
            done--;
            for (int i = 0; i < groupEdits[done]; i++) {
                undoEdit();
            }
            return groupEdits[done];
        }

        int redoGroup() {
            if (done < 0 || done >= MOST_GROUPS) {
                return 0;
            }
            for (int i = 0; i < groupEdits[done]; i++) {
                redoEdit();
            }
            done++;
            return groupEdits[done - 1];
        }

        private void redoEdit() {
            int edit = readEdit(editCount);
            int gone = edit / 1024 % 256;
            int put = edit / 262144;
            perform(edit, gone, put, signCount + gone);
            editCount++;
            signCount += gone + put;
        }

        private void undoEdit() {
            editCount--;
            int edit = readEdit(editCount);
            int gone = edit / 1024 % 256;
            int put = edit / 262144;
            signCount -= gone + put;
            perform(edit, put, gone, signCount);
        }

        /** Puts characters that are kept in place of others, where an edit tells. */
        private void perform(int edit, int gone, int put, int kept) {
            int buffer = edit % 4;
            int from = edit / 4 % 256;
            Text text = textAt(buffer);
            if (text == null || put > come.length) {
                return;
            }
            for (int i = 0; i < put; i++) {
                come[i] = readSign(kept + i);
            }
            text.splice(from, gone, come, 0, put);
            moveMarks(buffer, from, from + gone, put);
        }

        private void moveMarks(int buffer, int from, int to, int put) {
            for (int i = 0; i < markCount && i < MOST_MARKS; i++) {
                int place = markPlace[i];
                boolean stays = place < from || place == from && !markRight[i];
                if (markBuffer[i] != buffer || stays) {
                    continue;
                }
                if (place >= to) {
                    markPlace[i] = place + put - (to - from);
                } else {
                    markPlace[i] = markRight[i] ? from + put : from;
                }
            }
        }

        private boolean hasRoom(int more) {
            return editCount < CHUNK * EDIT_CHUNKS && signCount + more <= CHUNK * SIGN_CHUNKS && done < MOST_GROUPS;
        }

        /** Only an object that is used beyond its calls gets there. */
        private void forget() {
            editCount = 0;
            signCount = 0;
            loose = 0;
            done = 0;
            all = 0;
        }

        private void writeEdit(int at, int edit) {
            int index = at / CHUNK;
            if (at < 0 || index >= EDIT_CHUNKS) {
                return;
            }
            int[] chunk = edits[index];
            if (chunk == null) {
                chunk = new int[CHUNK];
                edits[index] = chunk;
            }
            chunk[at % CHUNK] = edit;
        }

        private int readEdit(int at) {
            int[] chunk = at >= 0 && at / CHUNK < EDIT_CHUNKS ? edits[at / CHUNK] : null;
            return chunk == null ? 0 : chunk[at % CHUNK];
        }

        private void writeSign(int at, int sign) {
            int index = at / CHUNK;
            if (at < 0 || index >= SIGN_CHUNKS) {
                return;
            }
            byte[] chunk = signs[index];
            if (chunk == null) {
                chunk = new byte[CHUNK];
                signs[index] = chunk;
            }
            chunk[at % CHUNK] = (byte) sign;
        }

        private int readSign(int at) {
            byte[] chunk = at >= 0 && at / CHUNK < SIGN_CHUNKS ? signs[at / CHUNK] : null;
            return chunk == null ? 0 : chunk[at % CHUNK];
        }
    }

    /** Prepares replacements on a copy of a buffer, so that nothing has changed if one is not possible. */
    private static final class Mender {
        static final int MOST_MATCHES = MOST_SIGNS + 2;
        static final int MOST_EDITS = MOST_REPLACEMENTS * MOST_MATCHES, MOST_PUT = MOST_REPLACEMENTS * MOST_SIGNS;
        static final int AS_IT_IS = 0, UPPER = 1, LOWER = 2;

        private final Text work = new Text();
        private final Text made = new Text();
        /** Of each match where it starts and ends, and where what is put in its place begins. */
        private final int[] starts = new int[MOST_MATCHES];
        private final int[] ends = new int[MOST_MATCHES];
        private final int[] madeFrom = new int[MOST_MATCHES];
        private final int[] froms = new int[MOST_EDITS];
        private final int[] gones = new int[MOST_EDITS];
        private final int[] puts = new int[MOST_EDITS];
        private final int[] signs = new int[MOST_PUT];
        private int editCount;
        private int signCount;
        /** How letters are put: as they are, upper, or lower. */
        private int letters;

        void start(Text text) {
            work.copy(text);
            editCount = 0;
            signCount = 0;
        }

        /** Prepares one replacement more; tells how many matches that are, NONE if it is not possible. */
        int prepare(Search search, Pattern pattern, Text template, int most) {
            made.count = 0;
            int found = 0;
            int from = 0;
            int length = work.count;
            for (int turn = 0; turn < most && turn < MOST_MATCHES && from <= work.count; turn++) {
                int span = search.ahead(pattern, work, from);
                if (span == TOO_FAR) {
                    return NONE;
                }
                if (span < 0) {
                    break;
                }
                madeFrom[turn] = made.count;
                starts[turn] = span / 1000;
                ends[turn] = span % 1000;
                found++;
                fillIn(template, search, found);
                length -= ends[turn] - starts[turn];
                // All that is put is in the text at last, so it can't be more than a buffer takes.
                if (made.count > MOST_SIGNS) {
                    return NONE;
                }
                from = search.nextFrom();
            }
            if (length + made.count > MOST_SIGNS) {
                return NONE;
            }
            addEdits(found);
            return found;
        }

        private void addEdits(int found) {
            int behind = made.count;
            for (int i = Math.min(found, MOST_MATCHES) - 1; i >= 0; i--) {
                int put = behind - madeFrom[i];
                behind = madeFrom[i];
                int gone = ends[i] - starts[i];
                work.splice(starts[i], gone, made.signs, behind, put);
                addEdit(starts[i], gone, behind, put);
            }
        }

        private void addEdit(int from, int gone, int offset, int put) {
            boolean isMade = offset >= 0 && put >= 0 && offset + put <= made.signs.length;
            if (!isMade || editCount < 0 || editCount >= MOST_EDITS || signCount < 0 || signCount + put > MOST_PUT) {
                return;
            }
            froms[editCount] = from;
            gones[editCount] = gone;
            puts[editCount] = put;
            System.arraycopy(made.signs, offset, signs, signCount, put);
            editCount++;
            signCount += put;
        }

        /** Does all that is prepared, as one group or as part of the open one. */
        void commit(Buffers buffers, int buffer) {
            int offset = 0;
            for (int i = 0; i < editCount && i < MOST_EDITS; i++) {
                buffers.edit(buffer, froms[i], gones[i], signs, offset, puts[i]);
                offset += puts[i];
            }
            buffers.endCall();
        }

        // -- templates

        static boolean isTemplate(Text text) {
            // 0 outside of conditions, 1 ahead of the "|" of one, 2 behind it
            int inside = 0;
            int length = 1;
            for (int at = 0; at < text.count; at += length) {
                length = lengthOf(text, at, inside > 0);
                int sign = text.at(at);
                if (length < 1 || sign == '|' && inside == 2) {
                    return false;
                }
                inside = sign == '?' ? 1 : inside == 0 || sign == '}' ? 0 : sign == '|' ? 2 : inside;
            }
            return inside == 0;
        }

        /** How many characters there belong together, 0 if a template has nothing of the kind. */
        private static int lengthOf(Text text, int at, boolean isInside) {
            int sign = text.at(at);
            int next = text.at(at + 1);
            if (sign == '\\') {
                boolean isLetter = next == 'U' || next == 'L' || next == 'E' || next == 'n';
                return isLetter || isPlainBehindSlash(next) ? 2 : 0;
            }
            if (sign == '$') {
                boolean isName = next == '{' && isLower(text.at(at + 2)) && text.at(at + 3) == '}';
                return isDigit(next) ? 2 : isName ? 4 : 0;
            }
            if (sign == '?') {
                return !isInside && isDigit(next) && text.at(at + 2) == '{' ? 3 : 0;
            }
            return 1;
        }

        /** Puts what a template makes of the last match of a search, which has a number, behind what is made. */
        private void fillIn(Text template, Search search, int number) {
            letters = AS_IT_IS;
            boolean isInside = false;
            boolean isTaken = true;
            int length = 1;
            for (int at = 0; at < template.count; at += length) {
                length = Math.max(1, lengthOf(template, at, isInside));
                int sign = template.at(at);
                if (sign == '?') {
                    isInside = true;
                    isTaken = search.spanOf(template.at(at + 1) - '0') >= 0;
                } else if (isInside && sign == '|') {
                    isTaken = !isTaken;
                } else if (isInside && sign == '}') {
                    isInside = false;
                    isTaken = true;
                } else if (isTaken) {
                    putPiece(template, at, search, number);
                }
            }
        }

        private void putPiece(Text template, int at, Search search, int number) {
            int sign = template.at(at);
            int next = template.at(at + 1);
            if (sign == '\\') {
                putSlashed(next, number);
            } else if (sign == '$' && next == '{') {
                int group = search.groupOf(template.at(at + 2) - 'a');
                // The group 0 is the match, and has no name.
                putSpan(search, group == 0 ? UNSET : search.spanOf(group));
            } else if (sign == '$') {
                putSpan(search, search.spanOf(next - '0'));
            } else {
                putSign(sign);
            }
        }

        private void putSlashed(int sign, int number) {
            switch (sign) {
                case 'U':
                    letters = UPPER;
                    break;
                case 'L':
                    letters = LOWER;
                    break;
                case 'E':
                    letters = AS_IT_IS;
                    break;
                case 'n':
                    putSign(NEW_LINE);
                    break;
                case '#':
                    if (number >= 10) {
                        putSign('0' + number / 10 % 10);
                    }
                    putSign('0' + number % 10);
                    break;
                default:
                    putSign(sign);
            }
        }

        private void putSpan(Search search, int span) {
            if (span >= 0) {
                for (int place = span / 1000; place < span % 1000; place++) {
                    putSign(search.signAt(place));
                }
            }
        }

        private void putSign(int sign) {
            made.add(letters == UPPER ? raised(sign) : letters == LOWER ? lowered(sign) : sign);
        }
    }
}
