/** Numbers that look random, but are always the same for the same seed. */
final class Dice {
    private long seed;

    Dice(long seed) {
        this.seed = seed;
    }

    /** A number from 0 on, below the end. */
    int below(int end) {
        seed = seed * 6364136223846793005L + 1442695040888963407L;
        return (int) ((seed >>> 33) % end);
    }

    /** Once in so many times. */
    boolean chance(int of) {
        return below(of) == 0;
    }

    int oneOf(int... numbers) {
        return numbers[below(numbers.length)];
    }
}
