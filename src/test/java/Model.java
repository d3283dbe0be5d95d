import java.nio.charset.StandardCharsets;
import java.util.ArrayList;
import java.util.Arrays;
import java.util.HashMap;
import java.util.HashSet;
import java.util.List;
import java.util.Map;
import java.util.Set;
import java.util.TreeMap;
import java.util.TreeSet;
import java.util.regex.Matcher;
import java.util.regex.Pattern;

/**
 * A second circle, written from the document with the whole Java library and by other ways than the first,
 * so that the two can be asked the same and compared.
 */
final class Model {
    private static final int NONE = -1;
    private static final String LETTERS = "nvwxbg";

    private static final class Place {
        int family;
        int group;
        boolean seal;
        int step;
        int out;
        int ever;
        int doubtful;
        int now;
    }

    private record Pair(int visitor, int farm) { }

    private final List<Place> farms = new ArrayList<>();
    private final Set<Pair> trades = new HashSet<>();
    private final int[] weights = {1, 1, 1, 1, 1, 1, 1, 1};
    private String tape = "";
    private Map<Character, Integer> rules = firstRules();
    private Set<Pair> visits = new HashSet<>();
    private Set<Pair> visitsBefore = new HashSet<>();
    private final Map<Pair, Set<Integer>> told = new HashMap<>();
    private boolean laid;
    private int year;

    private static Map<Character, Integer> firstRules() {
        return new HashMap<>(Map.of('n', 3, 'v', 3, 'w', 3, 'x', 9, 'b', 2, 'g', 60));
    }

    int feed(int a, int b, int c, int d, int e) {
        if (tape.length() > 40) {
            return NONE;
        }
        byte[] bytes = new byte[20];
        java.nio.ByteBuffer.wrap(bytes).putInt(a).putInt(b).putInt(c).putInt(d).putInt(e);
        tape += new String(bytes, StandardCharsets.ISO_8859_1);
        return tape.length();
    }

    int rules(int n) {
        if (n < 0 || n > tape.length()) {
            return NONE;
        }
        String text = tape.substring(0, n);
        tape = "";
        Map<Character, Integer> read = firstRules();
        int at = 0;
        Pattern clause = Pattern.compile("([nvwxbg])([0-9]{0,5})", Pattern.DOTALL);
        while (true) {
            Matcher m = clause.matcher(text).region(at, text.length());
            if (!m.lookingAt()) {
                return 100 + at;
            }
            int digits = m.group(2).length();
            if (digits == 0) {
                return 200 + at + 1;
            }
            if (digits == 5) {
                return 300 + at + 5;
            }
            char letter = m.group(1).charAt(0);
            int number = Integer.parseInt(m.group(2));
            if (!mayBe(letter, number)) {
                return 400 + at + 1;
            }
            read.put(letter, number);
            at = m.end();
            if (at == text.length()) {
                rules = read;
                return 0;
            }
            if (text.charAt(at) != ';') {
                return 500 + at;
            }
            at++;
        }
    }

    private static boolean mayBe(char letter, int number) {
        return switch (letter) {
            case 'n' -> number >= 1 && number <= 5;
            case 'v' -> number <= 9;
            case 'w', 'x' -> number >= 1;
            case 'b' -> number >= 1 && number <= 20;
            default -> number <= 100;
        };
    }

    int farm(int family, int group) {
        if (family < 0 || family > 7 || group < 0 || group > 3 || farms.size() == 10) {
            return NONE;
        }
        Place place = new Place();
        place.family = family;
        place.group = group;
        farms.add(place);
        return farms.size() - 1;
    }

    private boolean no(int f) {
        return f < 0 || f >= farms.size();
    }

    boolean buys(int a, int b, boolean is) {
        if (no(a) || no(b) || a == b) {
            return false;
        }
        return is ? trades.add(new Pair(a, b)) : trades.remove(new Pair(a, b));
    }

    boolean weight(int point, int n) {
        if (point < 0 || point > 7 || n < 1 || n > 99) {
            return false;
        }
        weights[point] = n;
        return true;
    }

    int barred(int v, int f) {
        if (no(v) || no(f)) {
            return NONE;
        }
        boolean is = v == f || farms.get(v).family == farms.get(f).family
            || trades.contains(new Pair(v, f)) || trades.contains(new Pair(f, v))
            || visitsBefore.contains(new Pair(v, f));
        return is ? 1 : 0;
    }

    /** Pair by pair: is there still a way with as many visits in all if this one is made? Asked anew each time. */
    int lay() {
        if (laid) {
            return NONE;
        }
        List<Pair> open = new ArrayList<>();
        for (int f = 0; f < farms.size(); f++) {
            for (int v = 0; v < farms.size(); v++) {
                if (barred(v, f) == 0) {
                    open.add(new Pair(v, f));
                }
            }
        }
        int most = most(open, new HashSet<>());
        Set<Pair> made = new HashSet<>();
        while (!open.isEmpty()) {
            Pair pair = open.remove(0);
            made.add(pair);
            int can = most(open, made);
            if (can == NONE || can + made.size() < most) {
                made.remove(pair);
            }
        }
        visits = made;
        laid = true;
        return made.size();
    }

    /** How many of the open pairs can be made beside those made; NONE if those are too many already. */
    private int most(List<Pair> open, Set<Pair> made) {
        int size = farms.size();
        int[] seats = new int[size];
        int[] feet = new int[size];
        Arrays.fill(seats, rules.get('n'));
        Arrays.fill(feet, rules.get('v'));
        for (Pair pair : made) {
            seats[pair.farm()]--;
            feet[pair.visitor()]--;
        }
        for (int f = 0; f < size; f++) {
            if (seats[f] < 0 || feet[f] < 0) {
                return NONE;
            }
        }
        boolean[][] free = new boolean[size][size];
        for (Pair pair : open) {
            free[pair.visitor()][pair.farm()] = true;
        }
        boolean[][] taken = new boolean[size][size];
        int found = 0;
        for (int v = 0; v < size; v++) {
            while (feet[v] > 0 && seat(v, free, taken, seats, new boolean[size])) {
                feet[v]--;
                found++;
            }
        }
        return found;
    }

    private boolean seat(int v, boolean[][] free, boolean[][] taken, int[] seats, boolean[] tried) {
        for (int f = 0; f < seats.length; f++) {
            if (!free[v][f] || taken[v][f] || tried[f]) {
                continue;
            }
            tried[f] = true;
            if (seats[f] > 0) {
                seats[f]--;
                taken[v][f] = true;
                return true;
            }
            for (int other = 0; other < seats.length; other++) {
                if (taken[other][f] && seat(other, free, taken, seats, tried)) {
                    taken[other][f] = false;
                    taken[v][f] = true;
                    return true;
                }
            }
        }
        return false;
    }

    private List<Integer> visitorsOf(int f) {
        TreeSet<Integer> found = new TreeSet<>();
        for (Pair pair : visits) {
            if (pair.farm() == f) {
                found.add(pair.visitor());
            }
        }
        return new ArrayList<>(found);
    }

    int visitor(int f, int i) {
        List<Integer> found = visitorsOf(f);
        return i < 0 || i >= found.size() ? NONE : found.get(i);
    }

    boolean tells(int v, int f, int point, boolean is) {
        Pair pair = new Pair(v, f);
        if (!visits.contains(pair) || point < 0 || point > 7) {
            return false;
        }
        Set<Integer> points = told.computeIfAbsent(pair, p -> new HashSet<>());
        if (is) {
            points.add(point);
        } else {
            points.remove(point);
        }
        return true;
    }

    int breaches(int f) {
        if (no(f)) {
            return NONE;
        }
        Map<Integer, Integer> tellers = new TreeMap<>();
        for (int v : visitorsOf(f)) {
            for (int point : told.getOrDefault(new Pair(v, f), Set.of())) {
                tellers.merge(point, 1, Integer::sum);
            }
        }
        int bits = 0;
        for (Map.Entry<Integer, Integer> entry : tellers.entrySet()) {
            if (entry.getValue() >= 2) {
                bits += 1 << entry.getKey();
            }
        }
        return bits;
    }

    int weighs(int f) {
        if (no(f)) {
            return NONE;
        }
        int sum = 0;
        int bits = breaches(f);
        for (int point = 0; point < 8; point++) {
            sum += (bits >> point) % 2 * weights[point];
        }
        return sum;
    }

    int vouches(int v, int f) {
        if (no(v) || no(f)) {
            return NONE;
        }
        Pair pair = new Pair(v, f);
        return visits.contains(pair) && told.getOrDefault(pair, Set.of()).isEmpty() ? 1 : 0;
    }

    int trust(int a, int b) {
        if (no(a) || no(b)) {
            return NONE;
        }
        int far = 1000;
        int size = farms.size();
        int[][] way = new int[size][size];
        for (int v = 0; v < size; v++) {
            for (int f = 0; f < size; f++) {
                way[v][f] = v == f ? 0 : vouches(v, f) == 1 ? 1 : far;
            }
        }
        for (int over = 0; over < size; over++) {
            for (int v = 0; v < size; v++) {
                for (int f = 0; f < size; f++) {
                    way[v][f] = Math.min(way[v][f], way[v][over] + way[over][f]);
                }
            }
        }
        return way[a][b] >= far ? NONE : way[a][b];
    }

    boolean sell(int f, int n) {
        if (no(f) || n < 1 || n > 10000 || !farms.get(f).seal) {
            return false;
        }
        farms.get(f).ever += n;
        farms.get(f).now += n;
        return true;
    }

    int year() {
        if (!laid || year == 500) {
            return NONE;
        }
        for (int f = 0; f < farms.size(); f++) {
            Place place = farms.get(f);
            if (breaches(f) != 0) {
                place.doubtful += place.now;
            }
            place.now = 0;
            if (place.out > 0) {
                place.out--;
                continue;
            }
            boolean goesOut = false;
            if (weighs(f) >= rules.get('x')) {
                goesOut = true;
            } else if (weighs(f) >= rules.get('w')) {
                place.step++;
                goesOut = place.step == 3;
            } else {
                place.step = Math.max(0, place.step - 1);
            }
            place.seal = !goesOut && visitorsOf(f).size() >= 2;
            if (goesOut) {
                place.step = 0;
                place.out = rules.get('b');
            }
        }
        visitsBefore = visits;
        visits = new HashSet<>();
        told.clear();
        laid = false;
        return ++year;
    }

    int sealed(int group) {
        if (group < 0 || group > 3) {
            return NONE;
        }
        long all = farms.stream().filter(p -> p.group == group).count();
        long seals = farms.stream().filter(p -> p.group == group && p.seal).count();
        return all > 0 && seals * 100 >= rules.get('g') * all ? 1 : 0;
    }

    int look(int f, int what) {
        if (no(f)) {
            return NONE;
        }
        Place p = farms.get(f);
        int[] facts = {p.family, p.group, p.seal ? 1 : 0, p.step, p.out, p.ever, p.doubtful, p.now,
            visitorsOf(f).size(), (int) visits.stream().filter(pair -> pair.visitor() == f).count()};
        return what < 0 || what >= facts.length ? NONE : facts[what];
    }

    int count(int what) {
        if (what >= 10 && what <= 15) {
            return rules.get(LETTERS.charAt(what - 10));
        }
        if (what >= 20 && what <= 27) {
            return weights[what - 20];
        }
        int seals = (int) farms.stream().filter(p -> p.seal).count();
        int out = (int) farms.stream().filter(p -> p.out > 0).count();
        int[] facts = {farms.size(), year, laid ? 1 : 0, visits.size(), seals, out, tape.length()};
        return what < 0 || what >= facts.length ? NONE : facts[what];
    }
}
