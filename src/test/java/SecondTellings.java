import java.math.BigInteger;
import java.util.HashMap;
import java.util.Map;

/** All TELLINGS of a row for the tests: counted from both ends, by what two feet side by side feel. */
final class SecondTellings {
    private final int[] row;
    private final int noise;
    /** For foot i: ways for the feet up to it (from it on), by what it and the next (ahead) one feel. */
    private final Map<Integer, BigInteger>[] upTo;
    private final Map<Integer, BigInteger>[] from;

    SecondTellings(int[] row, int noise) {
        this.row = row;
        this.noise = noise;
        upTo = sides(1);
        from = sides(-1);
    }

    private static int pair(int here, int there) {
        return (here + 15) * 31 + there + 15;
    }

    @SuppressWarnings("unchecked")
    private Map<Integer, BigInteger>[] sides(int step) {
        Map<Integer, BigInteger>[] sides = new Map[row.length];
        int first = step > 0 ? 0 : row.length - 1;
        for (int i = first; i >= 0 && i < row.length; i += step) {
            sides[i] = new HashMap<>();
            for (int behind = -15; behind <= 15; behind++) {
                for (int here = -15; here <= 15; here++) {
                    BigInteger ways = i == first ? (behind == 0 ? BigInteger.ONE : null)
                            : sides[i - step].get(pair(behind, here));
                    if (ways != null) {
                        goOn(sides[i], i, behind, here, ways);
                    }
                }
            }
        }
        return sides;
    }

    private void goOn(Map<Integer, BigInteger> side, int i, int behind, int here, BigInteger ways) {
        for (int there = -15; there <= 15; there++) {
            if (Math.abs(2 * here + behind + there - row[i]) <= noise) {
                side.merge(pair(here, there), ways, BigInteger::add);
            }
        }
    }

    BigInteger number() {
        BigInteger number = BigInteger.ZERO;
        for (int here = -15; here <= 15; here++) {
            number = number.add(upTo[row.length - 1].getOrDefault(pair(here, 0), BigInteger.ZERO));
        }
        return number;
    }

    /** What each foot feels at the least (0), at the most (1); there must be TELLINGS. */
    int[] bounds(int what) {
        int[] bounds = new int[row.length];
        for (int i = 0; i < row.length; i++) {
            int sign = what == 0 ? 1 : -1;
            int feels = -15 * sign;
            while (!mayBe(i, feels)) {
                feels += sign;
            }
            bounds[i] = feels;
        }
        return bounds;
    }

    private boolean mayBe(int i, int feels) {
        if (i == row.length - 1) {
            return upTo[i].containsKey(pair(feels, 0));
        }
        for (int there = -15; there <= 15; there++) {
            if (upTo[i].containsKey(pair(feels, there)) && from[i + 1].containsKey(pair(there, feels))) {
                return true;
            }
        }
        return false;
    }
}
