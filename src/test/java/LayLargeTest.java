import java.util.ArrayList;
import java.util.Arrays;
import java.util.List;
import java.util.Random;

/**
 * Promise 7 for circles of up to ten farms, too large to try all ways: farm by farm, the most visits that the farms
 * from it on can still have are kept by how many visits each farm has made before. No flow is asked, so that
 * a mistake in the class's way of finding them is not made here again.
 */
public final class LayLargeTest {
    private final Checks checks = new Checks();
    private final Random random = new Random(23);
    private PeerCircle circle;
    private int farms;
    private int mostVisitors;
    private int mostVisits;
    /** By farm: the sets of visitors that it may have, the least row first. */
    private int[][] sets;
    /** By visitor: what one visit of it adds to the number that stands for all visits made so far. */
    private int[] step;
    private int[][] known;

    public static void main(String[] args) {
        LayLargeTest test = new LayLargeTest();
        for (int round = 0; round < 800; round++) {
            test.layYears(5 + round % 4, 2);
        }
        for (int round = 0; round < 100; round++) {
            test.layYears(9 + round % 2, 1 + round % 2);
        }
        test.checks.end();
    }

    /** Many buy from one another, so that the visits are scarce and have to make way for one another. */
    private void layYears(int size, int mostOfVisits) {
        circle = new PeerCircle();
        farms = size;
        for (int f = 0; f < farms; f++) {
            circle.farm(random.nextInt(8), 0);
        }
        int trades = random.nextInt(farms * 2);
        for (int trade = 0; trade < trades; trade++) {
            circle.buys(random.nextInt(farms), random.nextInt(farms), true);
        }
        for (int year = 0; year < 3; year++) {
            mostVisitors = 1 + random.nextInt(3);
            mostVisits = 1 + random.nextInt(mostOfVisits);
            checks.due("rules", Checks.rules(circle, "n" + mostVisitors + ";v" + mostVisits), 0);
            prepare();
            checks.due("lay() of " + farms, circle.lay(), mostFrom(0, 0));
            compare();
            circle.year();
        }
    }

    private void prepare() {
        step = new int[farms];
        int states = 1;
        for (int v = 0; v < farms; v++) {
            step[v] = states;
            states *= mostVisits + 1;
        }
        known = new int[farms][states];
        sets = new int[farms][];
        for (int f = 0; f < farms; f++) {
            Arrays.fill(known[f], -1);
            List<int[]> rows = new ArrayList<>();
            addRows(f, 0, new int[0], rows);
            rows.sort(this::compareRows);
            sets[f] = rows.stream().mapToInt(LayLargeTest::setOf).toArray();
        }
    }

    private void addRows(int f, int from, int[] row, List<int[]> rows) {
        rows.add(row);
        for (int v = from; v < farms && row.length < mostVisitors; v++) {
            if (circle.barred(v, f) == 0) {
                int[] longer = Arrays.copyOf(row, row.length + 1);
                longer[row.length] = v;
                addRows(f, v + 1, longer, rows);
            }
        }
    }

    private int compareRows(int[] a, int[] b) {
        return Arrays.compare(filled(a), filled(b));
    }

    /** With 10 for each visitor that lacks. */
    private int[] filled(int[] row) {
        int[] all = new int[mostVisitors];
        Arrays.fill(all, 10);
        System.arraycopy(row, 0, all, 0, row.length);
        return all;
    }

    private static int setOf(int[] row) {
        int set = 0;
        for (int v : row) {
            set |= 1 << v;
        }
        return set;
    }

    private int mostFrom(int f, int made) {
        if (f == farms) {
            return 0;
        }
        if (known[f][made] < 0) {
            int most = 0;
            for (int set : sets[f]) {
                if (fits(set, made)) {
                    most = Math.max(most, Integer.bitCount(set) + mostFrom(f + 1, with(set, made)));
                }
            }
            known[f][made] = most;
        }
        return known[f][made];
    }

    private boolean fits(int set, int made) {
        for (int left = set; left != 0; left &= left - 1) {
            int v = Integer.numberOfTrailingZeros(left);
            if (made / step[v] % (mostVisits + 1) == mostVisits) {
                return false;
            }
        }
        return true;
    }

    private int with(int set, int made) {
        int sum = made;
        for (int left = set; left != 0; left &= left - 1) {
            sum += step[Integer.numberOfTrailingZeros(left)];
        }
        return sum;
    }

    /** The first set in the order of rows that keeps the most visits in all is the one due. */
    private void compare() {
        int made = 0;
        for (int f = 0; f < farms; f++) {
            int due = firstBest(f, made);
            int got = 0;
            for (int i = 0; i < mostVisitors; i++) {
                int v = circle.visitor(f, i);
                got |= v == PeerCircle.NONE ? 0 : 1 << v;
            }
            checks.due("visitors of " + f + " of " + farms + ", as bits", got, due);
            checks.due("their number", circle.look(f, 8), Integer.bitCount(due));
            made = with(due, made);
        }
    }

    private int firstBest(int f, int made) {
        for (int set : sets[f]) {
            if (fits(set, made) && Integer.bitCount(set) + mostFrom(f + 1, with(set, made)) == mostFrom(f, made)) {
                return set;
            }
        }
        return -1;
    }
}
