import java.util.ArrayList;
import java.util.Arrays;
import java.util.BitSet;
import java.util.HashMap;
import java.util.List;
import java.util.Map;

/**
 * A pattern read and searched as the document says it, with nothing in mind but its words: nodes have ways, each
 * of which goes on with what comes behind. Slow, deep, and made apart from the program.
 */
final class Reference {
    static final int FAR = -2, NONE = -1;

    enum Kind { SIGN, END, GOT, CONDITION, CALL, VERB, REPEAT, ALTERNATIVES, ROW, GROUP, WRAP, ATOMIC, LOOK }

    static final class Node {
        final Kind kind;
        final List<Node> kids = new ArrayList<>();
        BitSet signs;
        char letter;
        int number;
        int min;
        int max;
        char style;
        boolean folds;
        boolean isBehind;
        boolean isNot;

        Node(Kind kind) {
            this.kind = kind;
        }

        Node with(Node kid) {
            kids.add(kid);
            return this;
        }
    }

    // ---- reading

    private static final class Bad extends RuntimeException {
        Bad() {
            super(null, null, false, false);
        }
    }

    Node whole;
    int groups;
    int nodes;
    final Map<Integer, Node> bodies = new HashMap<>();
    final Map<Character, Integer> names = new HashMap<>();
    private final List<Node> tellers = new ArrayList<>();
    private final Map<Character, String> parts;
    private final char barred;
    private String s;
    private int i;
    private boolean iOn;
    private boolean sOn;
    private boolean mOn;

    private Reference(Map<Character, String> parts, char barred) {
        this.parts = parts;
        this.barred = barred;
    }

    /** The pattern that a text is, null if it is none. */
    static Reference read(String text, Map<Character, String> parts, char barred) {
        Reference r = new Reference(parts, barred);
        try {
            r.readWhole(text);
            return r;
        } catch (Bad bad) {
            return null;
        }
    }

    private void readWhole(String text) {
        whole = readText(text);
        bodies.put(0, whole);
        for (Node teller : tellers) {
            if (teller.letter != 0) {
                Integer group = names.get(teller.letter);
                need(group != null);
                teller.number = group;
            }
            need(teller.number <= groups);
        }
        need(nodes <= 150);
    }

    private Node readText(String text) {
        String outer = s;
        int at = i;
        s = text;
        i = 0;
        Node pattern = readPattern(99);
        need(i == s.length());
        s = outer;
        i = at;
        return pattern;
    }

    private static void need(boolean holds) {
        if (!holds) {
            throw new Bad();
        }
    }

    private char c() {
        return i < s.length() ? s.charAt(i) : 0;
    }

    private boolean eat(String what) {
        if (s.startsWith(what, i)) {
            i += what.length();
            return true;
        }
        return false;
    }

    private void count() {
        nodes++;
        need(nodes <= 1000);
    }

    private Node readPattern(int mostRows) {
        boolean wasI = iOn;
        boolean wasS = sOn;
        boolean wasM = mOn;
        Node alternatives = new Node(Kind.ALTERNATIVES);
        alternatives.with(readRow());
        while (eat("|")) {
            count();
            alternatives.with(readRow());
            need(alternatives.kids.size() <= mostRows);
        }
        iOn = wasI;
        sOn = wasS;
        mOn = wasM;
        return alternatives;
    }

    private Node readRow() {
        Node row = new Node(Kind.ROW);
        while (i < s.length() && c() != '|' && c() != ')') {
            Node atom = readAtom();
            boolean repeats = i < s.length() && "?*+{".indexOf(c()) >= 0;
            if (atom == null || atom.kind == Kind.VERB) {
                need(!repeats);
            }
            if (repeats) {
                atom = readRepeat(atom);
                need(i >= s.length() || "?*+{".indexOf(c()) < 0);
            }
            if (atom != null) {
                row.with(atom);
            }
        }
        return row;
    }

    private Node readRepeat(Node atom) {
        Node repeat = new Node(Kind.REPEAT).with(atom);
        count();
        if (eat("?")) {
            repeat.max = 1;
        } else if (eat("*")) {
            repeat.max = -1;
        } else if (eat("+")) {
            repeat.min = 1;
            repeat.max = -1;
        } else {
            need(eat("{"));
            repeat.min = number();
            repeat.max = repeat.min;
            if (eat(",")) {
                repeat.max = c() == '}' ? -1 : number();
            }
            need(eat("}"));
            need(repeat.max == -1 || repeat.max >= repeat.min);
        }
        repeat.style = eat("?") ? 'l' : eat("+") ? 'p' : 'g';
        return repeat;
    }

    private int number() {
        int digits = 0;
        int n = 0;
        while (digits < 2 && c() >= '0' && c() <= '9') {
            n = 10 * n + c() - '0';
            i++;
            digits++;
        }
        need(digits > 0 && n <= 20);
        return n;
    }

    private static boolean lower(char c) {
        return c >= 'a' && c <= 'z';
    }

    private static boolean symbol(char c) {
        return c > 32 && c < 127 && !Character.isLetterOrDigit(c);
    }

    private static BitSet all() {
        BitSet set = new BitSet();
        set.set(10);
        set.set(32, 127);
        return set;
    }

    private static BitSet not(BitSet set) {
        BitSet all = all();
        all.andNot(set);
        return all;
    }

    private static BitSet kind(char letter) {
        BitSet set = new BitSet();
        for (char c = 0; c < 127; c++) {
            boolean word = Character.isLetterOrDigit(c) || c == '_';
            char low = Character.toLowerCase(letter);
            set.set(c, low == 'd' ? Character.isDigit(c) : low == 'w' ? word : c == 10 || c == ' ');
        }
        return Character.isUpperCase(letter) ? not(set) : set;
    }

    private BitSet cases(BitSet set) {
        BitSet more = (BitSet) set.clone();
        if (iOn) {
            for (int c = 0; c < 127; c++) {
                if (set.get(c)) {
                    more.set(Character.toLowerCase(c));
                    more.set(Character.toUpperCase(c));
                }
            }
        }
        return more;
    }

    private Node sign(BitSet set) {
        Node node = new Node(Kind.SIGN);
        node.signs = set;
        return node;
    }

    private Node one(char c) {
        BitSet set = new BitSet();
        set.set(c);
        return sign(cases(set));
    }

    private static Node end(char letter) {
        Node node = new Node(Kind.END);
        node.letter = letter;
        return node;
    }

    private Node close(Node node) {
        need(eat(")"));
        return node;
    }

    /** An atom; null for a switch without a pattern. */
    private Node readAtom() {
        char c = c();
        if (c == '(') {
            return readBracket();
        }
        count();
        i++;
        switch (c) {
            case '.':
                BitSet any = all();
                any.set(10, sOn);
                return sign(any);
            case '^':
                return end(mOn ? '^' : 'A');
            case '$':
                return end(mOn ? '$' : 'z');
            case '[':
                return sign(readClass());
            case '\\':
                return readSlash();
            case '?':
            case '*':
            case '+':
            case '{':
                throw new Bad();
            default:
                return one(c);
        }
    }

    private Node readSlash() {
        char c = c();
        i++;
        if (c != 0 && "dwsDWS".indexOf(c) >= 0) {
            return sign(kind(c));
        }
        if (c == 'n') {
            return one((char) 10);
        }
        if (c != 0 && "bBAz".indexOf(c) >= 0) {
            return end(c);
        }
        Node got = new Node(Kind.GOT);
        got.folds = iOn;
        if (c >= '1' && c <= '9') {
            got.number = c - '0';
            tellers.add(got);
            return got;
        }
        if (c == 'k') {
            need(eat("<"));
            got.letter = c();
            need(lower(got.letter));
            i++;
            need(eat(">"));
            tellers.add(got);
            return got;
        }
        need(symbol(c));
        return one(c);
    }

    private BitSet readClass() {
        boolean other = eat("^");
        BitSet total = readOperand();
        while (!eat("]")) {
            if (eat("&&")) {
                total.and(readOperand());
            } else {
                need(eat("--"));
                total.andNot(readOperand());
            }
        }
        return other ? not(total) : total;
    }

    private BitSet readOperand() {
        BitSet set = new BitSet();
        int read = 0;
        while (i < s.length() && c() != ']' && !s.startsWith("&&", i) && !s.startsWith("--", i)) {
            read++;
            if (eat("[")) {
                set.or(readClass());
            } else if (c() == '\\' && i + 1 < s.length() && "dwsDWS".indexOf(s.charAt(i + 1)) >= 0) {
                set.or(kind(s.charAt(i + 1)));
                i += 2;
            } else {
                char first = single();
                char last = first;
                if (c() == '-' && !s.startsWith("--", i)) {
                    i++;
                    last = single();
                    need(last >= first);
                }
                BitSet range = new BitSet();
                range.set(first, last + 1);
                range.and(all());
                set.or(cases(range));
            }
        }
        need(read > 0);
        return set;
    }

    private char single() {
        need(i < s.length());
        char c = c();
        need(c != '[' && c != ']' && c != '-' && !s.startsWith("&&", i));
        i++;
        if (c != '\\') {
            return c;
        }
        need(i < s.length());
        c = c();
        i++;
        if (c == 'n') {
            return 10;
        }
        need(symbol(c));
        return c;
    }

    private Node readBracket() {
        i++;
        if (eat("*F)") || eat("*C)") || eat("*S)")) {
            count();
            Node verb = new Node(Kind.VERB);
            verb.letter = s.charAt(i - 2);
            return verb;
        }
        need(c() != '*');
        if (!eat("?")) {
            return readGroup();
        }
        String rest = s.substring(i);
        if (rest.matches("(?s)<[a-z]>.*")) {
            char name = s.charAt(i + 1);
            need(!names.containsKey(name));
            names.put(name, groups + 1);
            i += 3;
            return readGroup();
        }
        if (rest.matches("(?s)([ism]+(-[ism]+)?|-[ism]+)[:)].*")) {
            return readSwitches();
        }
        count();
        if (eat(":")) {
            return close(new Node(Kind.WRAP).with(readPattern(99)));
        }
        if (eat(">")) {
            return close(new Node(Kind.ATOMIC).with(readPattern(99)));
        }
        for (String look : new String[] {"=", "!", "<=", "<!"}) {
            if (eat(look)) {
                Node node = new Node(Kind.LOOK);
                node.isBehind = look.length() > 1;
                node.isNot = look.endsWith("!");
                return close(node.with(readPattern(99)));
            }
        }
        if (rest.matches("(?s)\\([1-9]\\).*")) {
            Node condition = new Node(Kind.CONDITION);
            condition.number = s.charAt(i + 1) - '0';
            tellers.add(condition);
            i += 3;
            Node rows = readPattern(2);
            condition.kids.addAll(rows.kids);
            return close(condition);
        }
        if (rest.matches("(?s)[0-9]\\).*")) {
            Node call = new Node(Kind.CALL);
            call.number = c() - '0';
            tellers.add(call);
            i += 2;
            return call;
        }
        need(rest.matches("(?s)&[a-z]\\).*"));
        char letter = s.charAt(i + 1);
        need(letter != barred && parts.containsKey(letter));
        i += 3;
        return new Node(Kind.WRAP).with(readText(parts.get(letter)));
    }

    private Node readGroup() {
        count();
        groups++;
        need(groups <= 9);
        Node group = new Node(Kind.GROUP);
        group.number = groups;
        Node pattern = readPattern(99);
        bodies.put(group.number, pattern);
        return close(group.with(pattern));
    }

    private Node readSwitches() {
        boolean wasI = iOn;
        boolean wasS = sOn;
        boolean wasM = mOn;
        boolean on = true;
        while (c() != ':' && c() != ')') {
            char c = c();
            i++;
            on = on && c != '-';
            iOn = c == 'i' ? on : iOn;
            sOn = c == 's' ? on : sOn;
            mOn = c == 'm' ? on : mOn;
        }
        if (eat(")")) {
            return null;
        }
        i++;
        count();
        Node wrap = new Node(Kind.WRAP).with(readPattern(99));
        iOn = wasI;
        sOn = wasS;
        mOn = wasM;
        return close(wrap);
    }

    // ---- finding

    private interface Then {
        boolean go(int place, int[] has);
    }

    private static final class Cut extends RuntimeException {
        final char verb;
        final int place;

        Cut(char verb, int place) {
            super(null, null, false, false);
            this.verb = verb;
            this.place = place;
        }
    }

    private static final class TooFar extends RuntimeException {
        TooFar() {
            super(null, null, false, false);
        }
    }

    private String text;
    private int mostSteps;
    int steps;
    /** What the groups have by the match: 1000 * from + to, or -3. */
    final int[] spans = new int[10];

    private void step() {
        steps++;
        if (steps > mostSteps) {
            throw new TooFar();
        }
    }

    /** A search from a place: 1000 * the start + the end, NONE or FAR. */
    int find(String in, int from, int most, boolean isBack) {
        text = in;
        mostSteps = most;
        steps = 0;
        try {
            int start = from;
            while (start >= 0 && start <= in.length()) {
                int next = isBack ? start - 1 : start + 1;
                int[] has = new int[20];
                Arrays.fill(has, -1);
                final int begun = start;
                try {
                    boolean found = ways(whole, start, has, 0, 0, (p, h) -> {
                        spans[0] = 1000 * begun + p;
                        for (int g = 1; g <= 9; g++) {
                            spans[g] = h[2 * g] < 0 ? -3 : 1000 * h[2 * g] + h[2 * g + 1];
                        }
                        return true;
                    });
                    if (found) {
                        return spans[0];
                    }
                } catch (Cut cut) {
                    if (cut.verb == 'C') {
                        return NONE;
                    }
                    if (!isBack && cut.place > start) {
                        next = cut.place;
                    }
                }
                start = next;
            }
            return NONE;
        } catch (TooFar tooFar) {
            return FAR;
        }
    }

    private boolean word(int place) {
        return place >= 0 && place < text.length() && kind('w').get(text.charAt(place));
    }

    private boolean isEnd(char letter, int p) {
        boolean atNew = p < text.length() && text.charAt(p) == 10;
        boolean behindNew = p > 0 && text.charAt(p - 1) == 10;
        switch (letter) {
            case 'A':
                return p == 0;
            case 'z':
                return p == text.length();
            case '^':
                return p == 0 || behindNew;
            case '$':
                return p == text.length() || atNew;
            default:
                return (word(p - 1) != word(p)) == (letter == 'b');
        }
    }

    private boolean ways(Node n, int p, int[] has, int looks, int calls, Then then) {
        switch (n.kind) {
            case SIGN:
                step();
                return p < text.length() && n.signs.get(text.charAt(p)) && then.go(p + 1, has);
            case END:
                step();
                return isEnd(n.letter, p) && then.go(p, has);
            case GOT:
                step();
                if (has[2 * n.number] < 0) {
                    return false;
                }
                String got = text.substring(has[2 * n.number], has[2 * n.number + 1]);
                return text.regionMatches(n.folds, p, got, 0, got.length()) && then.go(p + got.length(), has);
            case CONDITION:
                step();
                int row = has[2 * n.number] >= 0 ? 0 : 1;
                return row < n.kids.size() ? ways(n.kids.get(row), p, has, looks, calls, then) : then.go(p, has);
            case CALL:
                step();
                return calls < 20
                        && ways(bodies.get(n.number), p, has, looks, calls + 1, (q, h) -> then.go(q, has));
            case VERB:
                step();
                if (n.letter != 'F') {
                    if (then.go(p, has)) {
                        return true;
                    }
                    throw new Cut(n.letter, p);
                }
                return false;
            case ALTERNATIVES:
                for (Node alternative : n.kids) {
                    if (n.kids.size() > 1) {
                        step();
                    }
                    if (ways(alternative, p, has, looks, calls, then)) {
                        return true;
                    }
                }
                return false;
            case ROW:
                return rest(n, 0, p, has, looks, calls, then);
            case GROUP:
                return ways(n.kids.get(0), p, has, looks, calls, (q, h) -> {
                    int[] more = h.clone();
                    more[2 * n.number] = p;
                    more[2 * n.number + 1] = q;
                    return then.go(q, more);
                });
            case WRAP:
                return ways(n.kids.get(0), p, has, looks, calls, then);
            case REPEAT:
                if (n.style != 'p') {
                    step();
                    return rounds(n, 0, p, has, looks, calls, then);
                }
                break;
            default:
        }
        return part(n, p, has, looks, calls, then);
    }

    private boolean rest(Node row, int at, int p, int[] has, int looks, int calls, Then then) {
        if (at == row.kids.size()) {
            return then.go(p, has);
        }
        return ways(row.kids.get(at), p, has, looks, calls, (q, h) -> rest(row, at + 1, q, h, looks, calls, then));
    }

    private boolean rounds(Node n, int done, int p, int[] has, int looks, int calls, Then then) {
        boolean must = done < n.min;
        boolean may = must || n.max == -1 || done < n.max;
        if (!must && n.style == 'l' && then.go(p, has)) {
            return true;
        }
        if (may) {
            step();
            boolean found = ways(n.kids.get(0), p, has, looks, calls, (q, h) -> {
                if (n.max == -1 && !must && q == p) {
                    return false;
                }
                return rounds(n, done + 1, q, h, looks, calls, then);
            });
            if (found) {
                return true;
            }
        }
        return !must && n.style != 'l' && then.go(p, has);
    }

    /** A look, an atomic part or a possessive repeat. */
    private boolean part(Node n, int p, int[] has, int looks, int calls, Then then) {
        if (looks >= 40) {
            step();
            return false;
        }
        int[] end = {-1};
        int[][] by = {null};
        boolean found = false;
        boolean isBehind = n.kind == Kind.LOOK && n.isBehind;
        Then first = (q, h) -> {
            if (isBehind && q != p) {
                return false;
            }
            end[0] = q;
            by[0] = h;
            return true;
        };
        try {
            if (isBehind) {
                for (int start = p; start >= 0 && !found; start--) {
                    step();
                    found = ways(n.kids.get(0), start, has, looks + 1, calls, first);
                }
            } else {
                step();
                if (n.kind == Kind.REPEAT) {
                    step();
                    found = rounds(n, 0, p, has, looks + 1, calls, first);
                } else {
                    found = ways(n.kids.get(0), p, has, looks + 1, calls, first);
                }
            }
        } catch (Cut cut) {
            found = false;
        }
        if (n.kind == Kind.LOOK && n.isNot) {
            return !found && then.go(p, has);
        }
        return found && then.go(n.kind == Kind.LOOK ? p : end[0], by[0]);
    }

    // ---- facts

    long least(Node n) {
        long sum = 0;
        switch (n.kind) {
            case SIGN:
                return 1;
            case ROW:
                for (Node kid : n.kids) {
                    sum += least(kid);
                }
                return Math.min(1000000, sum);
            case ALTERNATIVES:
            case CONDITION:
                if (n.kind == Kind.CONDITION && n.kids.size() < 2) {
                    return 0;
                }
                long min = 1000000;
                for (Node kid : n.kids) {
                    min = Math.min(min, least(kid));
                }
                return min;
            case REPEAT:
                return Math.min(1000000, n.min * least(n.kids.get(0)));
            case GROUP:
            case WRAP:
            case ATOMIC:
                return least(n.kids.get(0));
            default:
                return 0;
        }
    }

    private boolean canBeEmpty(Node n) {
        return least(n) == 0;
    }

    double size(Node n) {
        double sum = 0;
        switch (n.kind) {
            case SIGN:
            case END:
                return 1;
            case GROUP:
                return 2 + size(n.kids.get(0));
            case REPEAT:
                double atom = size(n.kids.get(0));
                return n.max == -1 ? atom * (n.min + 1) + 2 : (atom + 1) * n.max;
            default:
                for (Node kid : n.kids) {
                    sum += size(kid);
                }
                return sum + (n.kind == Kind.ALTERNATIVES ? 2 * (n.kids.size() - 1) : 0);
        }
    }

    private boolean hasOnly(Node n, boolean ends) {
        boolean is = n.kind == Kind.SIGN || ends && n.kind == Kind.END || n.kind == Kind.ROW
                || n.kind == Kind.ALTERNATIVES || n.kind == Kind.GROUP || n.kind == Kind.WRAP
                || n.kind == Kind.REPEAT && n.style != 'p' && !(n.max == -1 && canBeEmpty(n.kids.get(0)));
        for (Node kid : n.kids) {
            is = is && hasOnly(kid, ends);
        }
        return is;
    }

    boolean isTakenBy(int engine) {
        return hasOnly(whole, engine == 1) && size(whole) <= 200;
    }

    boolean begins(Node n, int c) {
        switch (n.kind) {
            case SIGN:
                return n.signs.get(c);
            case ROW:
                for (Node kid : n.kids) {
                    if (begins(kid, c)) {
                        return true;
                    }
                    if (!canBeEmpty(kid)) {
                        return false;
                    }
                }
                return false;
            case GOT:
            case CALL:
                return true;
            case END:
            case LOOK:
            case VERB:
                return false;
            case REPEAT:
                return n.max != 0 && begins(n.kids.get(0), c);
            default:
                return n.kids.stream().anyMatch(kid -> begins(kid, c));
        }
    }

    String literal() {
        List<Node> row = new ArrayList<>();
        if (whole.kids.size() == 1) {
            spread(whole, row);
        }
        String best = "";
        String run = "";
        for (Node item : row) {
            boolean one = item.kind == Kind.SIGN && item.signs.cardinality() == 1;
            run = one ? run + (char) item.signs.nextSetBit(0) : "";
            best = run.length() > best.length() ? run : best;
        }
        return best;
    }

    private void spread(Node alternatives, List<Node> row) {
        for (Node item : alternatives.kids.get(0).kids) {
            boolean is = item.kind == Kind.GROUP || item.kind == Kind.WRAP || item.kind == Kind.ATOMIC;
            if (is && item.kids.get(0).kids.size() == 1) {
                spread(item.kids.get(0), row);
            } else {
                row.add(item);
            }
        }
    }

    /** Whether a node can be just c; by one round of a repeat in it, if one is told. */
    private boolean just(Node n, int c, Node by) {
        if (n == by) {
            return mayBeOne(n) && just(n.kids.get(0), c, null);
        }
        switch (n.kind) {
            case SIGN:
                return by == null && n.signs.get(c);
            case ROW:
                for (Node item : n.kids) {
                    boolean others = n.kids.stream().allMatch(other -> other == item || canBeEmpty(other));
                    if (others && just(item, c, by)) {
                        return true;
                    }
                }
                return false;
            case REPEAT:
                return mayBeOne(n) && just(n.kids.get(0), c, by);
            case ALTERNATIVES:
            case CONDITION:
            case GROUP:
            case WRAP:
            case ATOMIC:
                return n.kids.stream().anyMatch(kid -> just(kid, c, by));
            default:
                return false;
        }
    }

    private boolean mayBeOne(Node repeat) {
        return repeat.max != 0 && (repeat.min <= 1 || canBeEmpty(repeat.kids.get(0)));
    }

    int runaway() {
        List<Node> outers = new ArrayList<>();
        collect(whole, outers);
        for (int c = 0; c < 127; c++) {
            for (Node outer : outers) {
                List<Node> inners = new ArrayList<>();
                collect(outer.kids.get(0), inners);
                for (Node inner : inners) {
                    if (just(inner.kids.get(0), c, null) && just(outer.kids.get(0), c, inner)) {
                        return c;
                    }
                }
            }
        }
        return -1;
    }

    private void collect(Node n, List<Node> repeats) {
        if (n.kind == Kind.LOOK || n.kind == Kind.ATOMIC || n.kind == Kind.REPEAT && n.style == 'p') {
            return;
        }
        if (n.kind == Kind.REPEAT && n.max == -1) {
            repeats.add(n);
        }
        for (Node kid : n.kids) {
            collect(kid, repeats);
        }
    }
}
