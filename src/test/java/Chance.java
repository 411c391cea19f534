/** The same numbers for the same seed on every machine. */
final class Chance {
    private long state;

    Chance(long seed) {
        state = seed * 0x9E3779B97F4A7C15L + 0x1234567;
    }

    int below(int n) {
        state = state * 6364136223846793005L + 1442695040888963407L;
        return (int) ((state >>> 33) % n);
    }

    boolean in(int n) {
        return below(n) == 0;
    }

    char among(String signs) {
        return signs.charAt(below(signs.length()));
    }
}
