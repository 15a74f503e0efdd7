/** Numbers that look drawn and are the same in every run. */
final class Lots {
    private long state;

    Lots(long seed) {
        state = seed * 0x9E3779B97F4A7C15L + 0x1234567L;
    }

    int below(int bound) {
        state = state * 6364136223846793005L + 1442695040888963407L;
        return (int) ((state >>> 33) % bound);
    }

    boolean oneIn(int n) {
        return below(n) == 0;
    }

    int from(int least, int most) {
        return least + below(most - least + 1);
    }
}
