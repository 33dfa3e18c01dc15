/** Numbers that look picked by chance, from a counter. */
final class Numbers {
    long state;

    Numbers(long start) {
        state = start * 0x9E3779B97F4A7C15L;
    }

    int below(int bound) {
        state += 0x9E3779B97F4A7C15L;
        long z = (state ^ (state >>> 30)) * 0xBF58476D1CE4E5B9L;
        z = (z ^ (z >>> 27)) * 0x94D049BB133111EBL;
        return (int) Long.remainderUnsigned(z ^ (z >>> 31), bound);
    }

    /** Mostly a number below the bound, sometimes one that is not. */
    int near(int bound) {
        int pick = below(40);
        return pick == 0 ? -1 : pick == 1 ? bound : pick == 2 ? bound + below(20) : below(bound);
    }
}
