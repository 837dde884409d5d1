/** Numbers that look mixed and are the same in every run. */
final class Lcg {
    private long state;

    Lcg(long seed) {
        state = seed * 2862933555777941757L + 3037000493L;
    }

    int from(int least, int most) {
        state = state * 6364136223846793005L + 1442695040888963407L;
        return least + (int) ((state >>> 33) % (most - least + 1));
    }
}
