import java.util.function.IntSupplier;

/** A bench as tests use it: whole texts are typed, and answers are compared with those that are due. */
final class Bench {
    static int wrong = 0;
    static int checked = 0;
    /** The words of the document that are held just now, if a test tells them. */
    static String sentence = "";

    final MendBench x = new MendBench();

    Bench draft(String text) {
        x.clear();
        return typed(text);
    }

    Bench typed(String text) {
        for (int i = 0; i < text.length(); i += 4) {
            x.type(four(text.substring(i, Math.min(text.length(), i + 4))));
        }
        return this;
    }

    static int four(String signs) {
        int four = 0;
        for (int i = 0; i < signs.length(); i++) {
            four |= signs.charAt(i) << (8 * i);
        }
        return four;
    }

    int pattern(String text) {
        return draft(text).x.pattern();
    }

    int template(String text) {
        return draft(text).x.template();
    }

    int part(char letter, String text) {
        return draft(text).x.part(letter);
    }

    int fill(int buffer, String text) {
        return draft(text).x.fill(buffer);
    }

    int feed(int stream, String text) {
        return draft(text).x.feed(stream);
    }

    String text(int buffer) {
        StringBuilder text = new StringBuilder();
        for (int i = 0; i < x.size(buffer); i++) {
            text.append(x.sign(buffer, i));
        }
        return text.toString();
    }

    static void same(String what, long answered, long due) {
        checked++;
        if (answered != due) {
            wrong++;
            say(what + " answered " + answered + ", due is " + due);
        }
    }

    private static void say(String what) {
        System.out.println(sentence.isEmpty() ? what : what + "\n    by: " + sentence);
    }

    static void same(String what, String answered, String due) {
        checked++;
        if (!answered.equals(due)) {
            wrong++;
            say(what + " answered '" + answered + "', due is '" + due + "'");
        }
    }

    static void same(String what, boolean answered, boolean due) {
        same(what, answered ? 1 : 0, due ? 1 : 0);
    }

    /** That a call throws just this exception. */
    static void fails(String what, Class<? extends RuntimeException> due, IntSupplier call) {
        checked++;
        try {
            int answered = call.getAsInt();
            wrong++;
            say(what + " answered " + answered + ", due is " + due.getName());
        } catch (RuntimeException e) {
            if (e.getClass() != due) {
                wrong++;
                say(what + " threw " + e + ", due is " + due.getName());
            }
        }
    }

    static void end() {
        System.out.println(checked + " answers checked, " + wrong + " wrong");
        if (wrong != 0) {
            System.exit(1);
        }
    }
}
