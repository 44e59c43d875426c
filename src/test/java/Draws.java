import java.util.Arrays;

/** Finds seeds by what they draw, so that a test can say what is drawn, and a reader follow the document with it. */
final class Draws {
    private static final long MOST_SEEDS = 2_000_000_000L;
    private static final int ANYTHING = -1;
    private static final int NOT_ZERO = -2;

    private Draws() { }

    /**
     * The first seed from 0 on whose draws are those of the script, one word for each: "4:1" where DRAW(4) is 1, "4:+"
     * where it is not 0, "4:*" where it may be anything. Words without a colon are for the reader alone.
     */
    static long seedOf(String script) {
        int[][] draws = drawsOf(script);
        for (long seed = 0; seed < MOST_SEEDS; seed++) {
            if (drawsAs(seed, draws)) {
                return seed;
            }
        }
        throw new IllegalArgumentException("no seed draws " + script);
    }

    private static int[][] drawsOf(String script) {
        return Arrays.stream(script.split(" ")).filter(word -> word.contains(":")).map(Draws::drawOf)
                .toArray(int[][]::new);
    }

    private static int[] drawOf(String word) {
        String[] parts = word.split(":");
        int n = Integer.parseInt(parts[0]);
        if (parts[1].equals("*")) {
            return new int[] {n, ANYTHING};
        }
        int value = parts[1].equals("+") ? NOT_ZERO : Integer.parseInt(parts[1]);
        if (value >= n) {
            throw new IllegalArgumentException("DRAW(" + n + ") is never " + value);
        }
        return new int[] {n, value};
    }

    private static boolean drawsAs(long seed, int[][] draws) {
        long state = seed;
        for (int[] draw : draws) {
            state = state * 6364136223846793005L + 1442695040888963407L;
            long drawn = (state >>> 33) % draw[0];
            if (draw[1] == NOT_ZERO ? drawn == 0 : draw[1] != ANYTHING && drawn != draw[1]) {
                return false;
            }
        }
        return true;
    }
}
