import java.util.function.Consumer;
import java.util.function.ToIntFunction;

/**
 * Two benches with the same calls behind them, one of which has also had a call that is to change nothing: all that
 * can be asked of them from then on is answered alike.
 */
final class Twins {
    private Twins() {
    }

    /** That a call throws, and changes nothing. */
    static void refuse(String what, Class<? extends RuntimeException> due, Consumer<Bench> ahead, ToIntFunction<MendBench> call) {
        Bench one = new Bench();
        Bench other = new Bench();
        ahead.accept(one);
        ahead.accept(other);
        Bench.fails(what, due, () -> call.applyAsInt(one.x));
        Bench.same("all behind " + what, all(one), all(other));
    }

    /** That a call answers so, and changes nothing. */
    static void answer(String what, int due, Consumer<Bench> ahead, ToIntFunction<MendBench> call) {
        Bench one = new Bench();
        Bench other = new Bench();
        ahead.accept(one);
        ahead.accept(other);
        Bench.same(what, call.applyAsInt(one.x), due);
        Bench.same("all behind " + what, all(one), all(other));
    }

    private static String tried(ToIntFunction<MendBench> call, Bench b) {
        try {
            return call.applyAsInt(b.x) + " ";
        } catch (IndexOutOfBoundsException e) {
            return "index ";
        } catch (IllegalArgumentException e) {
            return "argument ";
        } catch (IllegalStateException e) {
            return "state ";
        }
    }

    /** What a bench answers to a long row of calls, up to the last one of them. */
    static String all(Bench b) {
        StringBuilder all = new StringBuilder();
        seen(b, all);
        edits(b, all);
        draft(b, all);
        macros(b, all);
        templates(b, all);
        counts(b, all);
        return all.toString();
    }

    private static void seen(Bench b, StringBuilder all) {
        for (int i = 0; i < 3; i++) {
            all.append(b.text(i)).append('|');
        }
        for (int i = 0; i < 12; i++) {
            final int number = i;
            all.append(tried(x -> x.place(number), b));
            all.append(tried(x -> x.groups(number), b));
            all.append(tried(x -> x.literal(number, 0), b));
            all.append(tried(x -> x.find(number, 0, 0, 0), b));
        }
        for (int i = 0; i < 4; i++) {
            final int number = i;
            all.append(tried(x -> x.told(number), b));
        }
        all.append('\n');
    }

    /** Whether a group is open, what can be redone, and what can be undone. */
    private static void edits(Bench b, StringBuilder all) {
        all.append(tried(x -> x.open(), b)).append(tried(x -> x.shut(), b));
        for (int i = 0; i < 3; i++) {
            all.append(tried(x -> x.redo(), b)).append(b.text(0)).append('|').append(b.x.size(1));
        }
        for (int i = 0; i < 12; i++) {
            all.append(tried(x -> x.undo(), b)).append(b.text(0)).append('|').append(b.x.size(1));
            all.append(tried(x -> x.place(0), b)).append(tried(x -> x.place(1), b));
        }
        all.append('\n');
    }

    private static void draft(Bench b, StringBuilder all) {
        String filled = tried(x -> x.fill(2), b);
        all.append(filled).append(b.text(2)).append('|').append(b.x.clear()).append('\n');
    }

    private static void macros(Bench b, StringBuilder all) {
        all.append(tried(x -> x.record(), b)).append(tried(x -> x.record(), b));
        for (int i = 0; i < 6; i++) {
            final int number = i;
            b.fill(1, "abcab");
            all.append(tried(x -> x.play(number, 1), b)).append(b.text(1)).append('|');
        }
        all.append('\n');
    }

    private static void templates(Bench b, StringBuilder all) {
        for (int i = 0; i < 8; i++) {
            final int number = i;
            b.fill(1, "abc");
            all.append(tried(x -> x.replace(0, number, 1, 1), b)).append(b.text(1)).append('|');
        }
        all.append('\n');
    }

    private static void counts(Bench b, StringBuilder all) {
        b.draft("a");
        all.append(tried(x -> x.pattern(), b));
        b.draft("(?&a)(?&p)");
        all.append(tried(x -> x.pattern(), b)).append(b.x.clear()).append(' ');
        b.draft("t");
        all.append(tried(x -> x.template(), b)).append(b.x.clear()).append(' ');
        all.append(tried(x -> x.mark(0, 0, true), b));
        all.append(tried(x -> x.stream(0, false), b));
        for (int i = 0; i < 4; i++) {
            final int number = i;
            b.draft("ab");
            all.append(tried(x -> x.feed(number), b)).append(tried(x -> x.finish(number), b));
        }
    }
}
