/**
 * Calls of all kinds made by chance, far beyond what they may be told: nothing but the exceptions of the document
 * comes out, and a call that throws leaves all that can be seen as it was.
 */
public final class FaceTest {
    private static final String[] DRAFTS = {
        "a", "(a)(b)?", "(?:a+)+c", "(?&p)+", "(?0)|a", "(?<=a)b", "\\b", "", "(?<x>a|b)\\k<x>", "a(*S)b|.", "[a-c]{1,3}?", "(?>a*)b", "(", "$1",
        "?1{a|b}", "\\U$0\\#", "aab abc", "ab\nab", "(?i)A|(?=(b))", "(a(?1)?b)", "(?!(?<!(?=(?>a*+))))", "(?(1)a|b)(c)?", "[^\\w--[ab]]*",
    };
    private static final int[] ODD = {-1, 0, 1, 2, 3, 4, 5, 11, 12, 80, 81, 100, 101, 97, 112, 122, 123, Integer.MAX_VALUE, Integer.MIN_VALUE};

    private final Chance chance;
    private final Bench b = new Bench();

    private FaceTest(int seed) {
        chance = new Chance(seed);
    }

    public static void main(String[] args) {
        int runs = args.length > 0 ? Integer.parseInt(args[0]) : 3000;
        for (int run = 0; run < runs && Bench.wrong < 10; run++) {
            new FaceTest(run).run();
        }
        Bench.end();
    }

    private int odd() {
        return chance.one(4) ? ODD[chance.below(ODD.length)] : chance.below(3);
    }

    private void run() {
        for (int i = 0; i < 300; i++) {
            if (chance.one(3)) {
                b.draft(chance.of(DRAFTS));
            }
            int which = chance.below(33);
            String before = seen();
            Bench.checked++;
            try {
                call(which);
            } catch (RuntimeException e) {
                if (!isDue(which, e)) {
                    Bench.wrong++;
                    System.out.println("call " + which + " threw " + e);
                    e.printStackTrace(System.out);
                }
                Bench.same("what is seen behind a call " + which + " that throws", seen(), before);
            }
        }
    }

    private static boolean isDue(int which, RuntimeException e) {
        boolean isIndex = e.getClass() == IndexOutOfBoundsException.class;
        boolean isArgument = e.getClass() == IllegalArgumentException.class;
        boolean isState = e.getClass() == IllegalStateException.class;
        boolean mayIndex = which >= 6 && which < 24 || which >= 29;
        boolean mayArgument = which == 0 || which == 2 || which == 8 || which == 9 || which == 13 || which == 21;
        boolean mayState = which == 0 || which >= 3 && which <= 5 || which == 18 || which == 21 || which == 22 || which >= 24 && which < 32;
        return isIndex && mayIndex || isArgument && mayArgument || isState && mayState;
    }

    private void call(int which) {
        MendBench x = b.x;
        switch (which) {
            case 0: x.type(chance.one(2) ? Bench.four("ab") : odd()); break;
            case 1: x.clear(); break;
            case 2: x.part(chance.one(2) ? 'p' : odd()); break;
            case 3: case 5: x.pattern(); break;
            case 4: x.template(); break;
            case 6: x.groups(odd()); break;
            case 7: x.least(odd()); break;
            case 8: x.begins(odd(), odd()); break;
            case 9: x.literal(odd(), odd()); break;
            case 10: x.runaway(odd()); break;
            case 11: x.find(odd(), odd(), odd(), odd()); break;
            case 12: x.anew(odd(), odd(), odd(), odd()); break;
            case 13: x.by(odd(), odd(), odd(), odd(), odd()); break;
            case 14: x.steps(odd(), odd(), odd()); break;
            case 15: x.back(odd(), odd(), odd()); break;
            case 16: x.matches(odd(), odd()); break;
            case 17: x.match(odd(), odd(), odd()); break;
            case 18: x.fill(odd()); break;
            case 19: x.size(odd()); break;
            case 20: x.sign(odd(), odd()); break;
            case 21: x.replace(odd(), odd(), odd(), chance.one(2) ? 1 : odd()); break;
            case 22: x.mark(odd(), odd(), chance.one(2)); break;
            case 23: x.place(odd()); break;
            case 24: x.open(); break;
            case 25: x.shut(); break;
            case 26: x.undo(); break;
            case 27: x.redo(); break;
            case 28: x.record(); break;
            case 29: x.play(odd(), odd()); break;
            case 30: x.feed(odd()); break;
            case 31: stream(); break;
            default: x.told(odd());
        }
    }

    private void stream() {
        if (chance.one(4)) {
            b.x.finish(odd());
        } else {
            b.x.stream(odd(), chance.one(2));
        }
    }

    /** All that can be seen without a change. */
    private String seen() {
        StringBuilder seen = new StringBuilder();
        for (int i = 0; i < 3; i++) {
            seen.append(b.text(i)).append('|');
        }
        for (int i = 0; i < 12; i++) {
            final int number = i;
            seen.append(answer(() -> b.x.groups(number))).append(' ');
            seen.append(answer(() -> b.x.matches(number, 0))).append(' ');
            seen.append(answer(() -> b.x.place(number))).append(' ');
            seen.append(answer(() -> b.x.told(number))).append(' ');
        }
        return seen.toString();
    }

    private static String answer(java.util.function.IntSupplier call) {
        try {
            return Integer.toString(call.getAsInt());
        } catch (IndexOutOfBoundsException e) {
            return e.getClass() == IndexOutOfBoundsException.class ? "none" : e.toString();
        }
    }
}
