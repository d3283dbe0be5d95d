import java.util.ArrayList;
import java.util.List;
import java.util.Random;

/** Promise 7 by force: the visits laid against all ways there are, for circles small enough to try them all. */
public final class LayTest {
    private final Checks checks = new Checks();
    private PeerCircle circle;
    private int farms;
    private int mostVisitors;
    private int mostVisits;
    private int bestTotal;
    private List<Integer> bestRow;

    public static void main(String[] args) {
        LayTest test = new LayTest();
        Random random = new Random(7);
        for (int round = 0; round < 600; round++) {
            test.layYears(random, random.nextInt(5), 5);
        }
        for (int round = 0; round < 15; round++) {
            test.layYears(random, 5, 3);
        }
        test.checks.end();
    }

    private void layYears(Random random, int size, int years) {
        circle = new PeerCircle();
        farms = size;
        for (int f = 0; f < farms; f++) {
            circle.farm(random.nextInt(8), 0);
        }
        for (int year = 0; year < years; year++) {
            mostVisitors = 1 + random.nextInt(5);
            mostVisits = random.nextInt(5);
            checks.due("rules", Checks.rules(circle, "n" + mostVisitors + ";v" + mostVisits), 0);
            if (farms > 0 && random.nextBoolean()) {
                circle.buys(random.nextInt(farms), random.nextInt(farms), random.nextBoolean());
            }
            bestTotal = -1;
            tryFarm(0, new int[farms], new ArrayList<>(), 0);
            checks.due("lay() of " + farms + " farms", circle.lay(), bestTotal);
            compareRows(year);
            circle.year();
        }
    }

    /** Tries every set of visitors for farm f, and all that follow for the farms behind it. */
    private void tryFarm(int f, int[] made, List<Integer> row, int total) {
        if (f == farms) {
            if (total > bestTotal || total == bestTotal && isLess(row, bestRow)) {
                bestTotal = total;
                bestRow = new ArrayList<>(row);
            }
            return;
        }
        for (int set = 0; set < 1 << farms; set++) {
            if (fits(f, set, made)) {
                int size = row.size();
                for (int v = 0; v < farms; v++) {
                    if ((set >> v & 1) != 0) {
                        made[v]++;
                        row.add(v);
                    }
                }
                while (row.size() < size + mostVisitors) {
                    row.add(10);
                }
                tryFarm(f + 1, made, row, total + Integer.bitCount(set));
                row.subList(size, row.size()).clear();
                for (int v = 0; v < farms; v++) {
                    made[v] -= set >> v & 1;
                }
            }
        }
    }

    private boolean fits(int f, int set, int[] made) {
        if (Integer.bitCount(set) > mostVisitors) {
            return false;
        }
        for (int v = 0; v < farms; v++) {
            if ((set >> v & 1) != 0 && (made[v] >= mostVisits || circle.barred(v, f) == 1)) {
                return false;
            }
        }
        return true;
    }

    private static boolean isLess(List<Integer> row, List<Integer> other) {
        for (int i = 0; i < row.size(); i++) {
            int order = row.get(i).compareTo(other.get(i));
            if (order != 0) {
                return order < 0;
            }
        }
        return false;
    }

    private void compareRows(int year) {
        for (int f = 0; f < farms; f++) {
            for (int i = 0; i < mostVisitors; i++) {
                int want = bestRow.get(f * mostVisitors + i);
                checks.due("year " + year + ": visitor(" + f + ", " + i + ")", circle.visitor(f, i), want == 10 ? PeerCircle.NONE : want);
            }
            checks.due("visitor behind the last", circle.visitor(f, mostVisitors), PeerCircle.NONE);
        }
    }
}
