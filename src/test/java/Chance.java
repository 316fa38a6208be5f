/** Numbers that look like chance, the same ones in each run. */
final class Chance {
    private long state;

    Chance(long seed) {
        state = seed * 0x9E3779B97F4A7C15L + 12345;
    }

    /** A number from 0 up to one below a bound. */
    int below(int bound) {
        state = state * 6364136223846793005L + 1442695040888963407L;
        return (int) ((state >>> 33) % bound);
    }

    boolean one(int of) {
        return below(of) == 0;
    }

    char of(String signs) {
        return signs.charAt(below(signs.length()));
    }

    String of(String[] texts) {
        return texts[below(texts.length)];
    }
}
