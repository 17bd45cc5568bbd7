/** Numbers that look thrown but are the same for the same seed on every machine. */
final class Dice {
    private long state;

    Dice(long seed) {
        state = seed * 0x9E3779B97F4A7C15L + 1;
    }

    int nextInt() {
        state = state * 6364136223846793005L + 1442695040888963407L;
        return (int) ((state ^ state >>> 29) >>> 32);
    }

    int nextInt(int bound) {
        return Math.floorMod(nextInt(), bound);
    }

    boolean nextBoolean() {
        return nextInt(2) == 0;
    }
}
