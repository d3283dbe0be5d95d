import java.util.Arrays;

/** Farms that vouch for one another. The document that it keeps is ../shared/DOC.md; its words stand in capitals here. */
public final class PeerCircle {
    public static final int NONE = -1;

    private static final int MOST_FARMS = 10;
    private static final int FAMILIES = 8;
    private static final int GROUPS = 4;
    private static final int POINTS = 8;
    private static final int MOST_WEIGHT = 99;
    private static final int MOST_BASKETS = 10000;
    private static final int LAST_YEAR = 500;

    private final Tape tape = new Tape();
    private final Rules ruling = new Rules();
    private final Visits visits = new Visits();
    private final Planner planner = new Planner();
    private final Farm[] farms = new Farm[MOST_FARMS];
    /** By FARM, as bits: whom it BUYS from. */
    private final int[] sellers = new int[MOST_FARMS];
    private final int[] weights = new int[POINTS];
    private int farmCount = 0;
    private int yearNow = 0;

    public PeerCircle() {
        Arrays.fill(weights, 1);
    }

    public int feed(int a, int b, int c, int d, int e) {
        if (!tape.takesFeed()) {
            return NONE;
        }
        tape.put(a);
        tape.put(b);
        tape.put(c);
        tape.put(d);
        tape.put(e);
        return tape.size();
    }

    public int rules(int n) {
        if (n < 0 || n > tape.size()) {
            return NONE;
        }
        tape.cutTo(n);
        int answer = ruling.read(tape);
        tape.cutTo(0);
        return answer;
    }

    public int farm(int family, int group) {
        if (!isBelow(family, FAMILIES) || !isBelow(group, GROUPS) || !isBelow(farmCount, MOST_FARMS)) {
            return NONE;
        }
        farms[farmCount] = new Farm(family, group);
        farmCount++;
        return farmCount - 1;
    }

    public boolean buys(int a, int b, boolean is) {
        if (!areFarms(a, b) || a == b || buysFrom(a, b) == is) {
            return false;
        }
        sellers[a] ^= 1 << b;
        return true;
    }

    public boolean weight(int point, int n) {
        if (!isBelow(point, POINTS) || n < 1 || n > MOST_WEIGHT) {
            return false;
        }
        weights[point] = n;
        return true;
    }

    public int lay() {
        if (visits.areLaid()) {
            return NONE;
        }
        planner.begin(ruling.number(Rules.VISITORS), ruling.number(Rules.VISITS));
        for (int f = 0; f < farmCount; f++) {
            for (int v = 0; v < farmCount; v++) {
                if (!isBarred(v, f)) {
                    planner.allow(v, f);
                }
            }
        }
        planner.planMost();
        planner.planLeastRow(farmCount);
        for (int f = 0; f < farmCount; f++) {
            visits.setVisitors(f, planner.visitorsOf(f));
        }
        visits.setLaid();
        return visits.total();
    }

    public int visitor(int f, int i) {
        if (!isFarm(f)) {
            return NONE;
        }
        return visits.visitorAt(f, i);
    }

    public boolean tells(int v, int f, int point, boolean is) {
        if (!areFarms(v, f) || !isBelow(point, POINTS) || !visits.isVisitor(v, f)) {
            return false;
        }
        visits.tell(v, f, point, is);
        return true;
    }

    public int breaches(int f) {
        if (!isFarm(f)) {
            return NONE;
        }
        return visits.breachesAt(f);
    }

    public int weighs(int f) {
        if (!isFarm(f)) {
            return NONE;
        }
        return weightOf(visits.breachesAt(f));
    }

    public int vouches(int v, int f) {
        if (!areFarms(v, f)) {
            return NONE;
        }
        return oneIf(hasBit(visits.vouchersFor(f), v));
    }

    public int trust(int a, int b) {
        if (!areFarms(a, b)) {
            return NONE;
        }
        int reached = 1 << a;
        for (int steps = 0; steps < MOST_FARMS; steps++) {
            if (hasBit(reached, b)) {
                return steps;
            }
            reached |= visits.vouchedForBy(reached);
        }
        return NONE;
    }

    public boolean sell(int f, int n) {
        Farm seller = farmAt(f);
        if (seller == null || n < 1 || n > MOST_BASKETS || !seller.hasSeal) {
            return false;
        }
        seller.sellBaskets(n);
        return true;
    }

    public int year() {
        if (!visits.areLaid() || yearNow >= LAST_YEAR) {
            return NONE;
        }
        for (int f = 0; f < farmCount; f++) {
            Farm one = farmAt(f);
            if (one != null) {
                int broken = visits.breachesAt(f);
                one.countDoubtful(broken != 0);
                one.goOn(weightOf(broken), visits.visitorCount(f), ruling);
            }
        }
        visits.endYear();
        yearNow++;
        return yearNow;
    }

    public int sealed(int group) {
        if (!isBelow(group, GROUPS)) {
            return NONE;
        }
        int all = 0;
        int withSeal = 0;
        for (int f = 0; f < farmCount; f++) {
            Farm one = farmAt(f);
            if (one != null && one.group == group) {
                all++;
                withSeal += oneIf(one.hasSeal);
            }
        }
        return oneIf(all > 0 && withSeal * 100 >= ruling.number(Rules.GROUP_SHARE) * all);
    }

    public int barred(int v, int f) {
        if (!areFarms(v, f)) {
            return NONE;
        }
        return oneIf(isBarred(v, f));
    }

    public int look(int f, int what) {
        Farm one = farmAt(f);
        if (one == null) {
            return NONE;
        }
        switch (what) {
            case 0: return one.family;
            case 1: return one.group;
            case 2: return oneIf(one.hasSeal);
            case 3: return one.step;
            case 4: return one.yearsOut;
            case 5: return one.soldEver;
            case 6: return one.doubtful;
            case 7: return one.soldThisYear;
            case 8: return visits.visitorCount(f);
            case 9: return visits.visitsBy(f);
            default: return NONE;
        }
    }

    public int count(int what) {
        if (isBelow(what - 10, Rules.KINDS)) {
            return ruling.number(what - 10);
        }
        if (isBelow(what - 20, POINTS)) {
            return weights[what - 20];
        }
        switch (what) {
            case 0: return farmCount;
            case 1: return yearNow;
            case 2: return oneIf(visits.areLaid());
            case 3: return visits.total();
            case 4: return countSeals();
            case 5: return countOut();
            case 6: return tape.size();
            default: return NONE;
        }
    }

    private static boolean isBelow(int number, int bound) {
        return number >= 0 && number < bound;
    }

    private static boolean hasBit(int bits, int place) {
        return (bits >> place & 1) != 0;
    }

    private static int oneIf(boolean is) {
        return is ? 1 : 0;
    }

    private boolean isFarm(int f) {
        return isBelow(f, farmCount);
    }

    private boolean areFarms(int a, int b) {
        return isFarm(a) && isFarm(b);
    }

    /** The FARM of that number, or null. */
    private Farm farmAt(int f) {
        return isFarm(f) ? farms[f] : null;
    }

    private boolean buysFrom(int buyer, int seller) {
        return hasBit(sellers[buyer], seller);
    }

    private boolean isBarred(int v, int f) {
        return areKin(v, f) || buysFrom(v, f) || buysFrom(f, v) || visits.wasVisitor(v, f);
    }

    /** A FARM is of its own FAMILY, so this bars it from itself, too. */
    private boolean areKin(int v, int f) {
        Farm one = farmAt(v);
        Farm other = farmAt(f);
        return one != null && other != null && one.family == other.family;
    }

    private int weightOf(int broken) {
        int sum = 0;
        for (int point = 0; point < POINTS; point++) {
            if (hasBit(broken, point)) {
                sum += weights[point];
            }
        }
        return sum;
    }

    private int countSeals() {
        int seals = 0;
        for (int f = 0; f < farmCount; f++) {
            Farm one = farmAt(f);
            if (one != null && one.hasSeal) {
                seals++;
            }
        }
        return seals;
    }

    private int countOut() {
        int out = 0;
        for (int f = 0; f < farmCount; f++) {
            Farm one = farmAt(f);
            if (one != null && one.isOut()) {
                out++;
            }
        }
        return out;
    }

    /** The bytes that were fed and not yet read, each as 0 to 255. */
    private static final class Tape {
        static final int END = -1;
        private static final int ROOM = 60;
        private static final int BYTES_OF_A_FEED = 20;

        private final int[] bytes = new int[ROOM];
        private int size = 0;

        int size() {
            return size;
        }

        boolean takesFeed() {
            return size + BYTES_OF_A_FEED <= ROOM;
        }

        void put(int four) {
            for (int shift = 24; shift >= 0; shift -= 8) {
                if (isBelow(size, ROOM)) {
                    bytes[size] = four >>> shift & 255;
                    size++;
                }
            }
        }

        void cutTo(int length) {
            if (length >= 0 && length < size) {
                size = length;
            }
        }

        int at(int place) {
            return isBelow(place, size) ? bytes[place] : END;
        }

        boolean hasDigitAt(int place) {
            return at(place) >= '0' && at(place) <= '9';
        }
    }

    /** The numbers of the RULES, by kinds in the order in which count tells them. */
    private static final class Rules {
        static final int VISITORS = 0;
        static final int VISITS = 1;
        static final int WARNING = 2;
        static final int OUT_AT_ONCE = 3;
        static final int YEARS_OUT = 4;
        static final int GROUP_SHARE = 5;
        static final int KINDS = 6;

        private static final String LETTERS = "nvwxbg";
        private static final int[] AT_FIRST = {3, 3, 3, 9, 2, 60};
        private static final int[] LEAST = {1, 0, 1, 1, 1, 0};
        private static final int[] MOST = {5, 9, 9999, 9999, 20, 100};
        private static final int MOST_DIGITS = 4;

        private static final int NO_LETTER = 1;
        private static final int NO_DIGIT = 2;
        private static final int FIFTH_DIGIT = 3;
        private static final int NO_SUCH_NUMBER = 4;
        private static final int NO_SEPARATOR = 5;

        private final int[] numbers = new int[KINDS];
        /** What the CLAUSES read so far tell: it counts only when the whole TEXT has no FAULT. */
        private final int[] draft = new int[KINDS];
        private int place = 0;

        Rules() {
            System.arraycopy(AT_FIRST, 0, numbers, 0, KINDS);
        }

        int number(int kind) {
            return isBelow(kind, KINDS) ? numbers[kind] : NONE;
        }

        /** 0, or the FAULT and its place; then the RULES stay. */
        int read(Tape text) {
            System.arraycopy(AT_FIRST, 0, draft, 0, KINDS);
            place = 0;
            for (int clause = 0; clause <= text.size(); clause++) {
                int fault = readClause(text);
                if (fault != 0) {
                    return fault;
                }
                if (text.at(place) == Tape.END) {
                    System.arraycopy(draft, 0, numbers, 0, KINDS);
                    return 0;
                }
                if (text.at(place) != ';') {
                    return faultAt(NO_SEPARATOR, place);
                }
                place++;
            }
            return faultAt(NO_LETTER, place);
        }

        private int readClause(Tape text) {
            int kind = kindOf(text.at(place));
            if (!isBelow(kind, KINDS)) {
                return faultAt(NO_LETTER, place);
            }
            place++;
            int first = place;
            if (!text.hasDigitAt(first)) {
                return faultAt(NO_DIGIT, first);
            }
            int number = readDigits(text);
            if (text.hasDigitAt(place)) {
                return faultAt(FIFTH_DIGIT, place);
            }
            if (number < LEAST[kind] || number > MOST[kind]) {
                return faultAt(NO_SUCH_NUMBER, first);
            }
            draft[kind] = number;
            return 0;
        }

        private int readDigits(Tape text) {
            int number = 0;
            for (int digit = 0; digit < MOST_DIGITS && text.hasDigitAt(place); digit++) {
                number = number * 10 + text.at(place) - '0';
                place++;
            }
            return number;
        }

        private static int kindOf(int sign) {
            return sign == Tape.END ? NONE : LETTERS.indexOf((char) sign);
        }

        private static int faultAt(int fault, int place) {
            return 100 * fault + place;
        }
    }

    private static final class Farm {
        private static final int LAST_STEP = 3;
        private static final int VISITORS_FOR_A_SEAL = 2;

        final int family;
        final int group;
        boolean hasSeal = false;
        int step = 0;
        int yearsOut = 0;
        int soldEver = 0;
        int soldThisYear = 0;
        int doubtful = 0;

        Farm(int family, int group) {
            this.family = family;
            this.group = group;
        }

        boolean isOut() {
            return yearsOut > 0;
        }

        void sellBaskets(int n) {
            soldEver += n;
            soldThisYear += n;
        }

        void countDoubtful(boolean isBroken) {
            if (isBroken) {
                doubtful += soldThisYear;
            }
            soldThisYear = 0;
        }

        /** Into the next YEAR. One that is OUT gets no SEAL by it, even if it is OUT no longer then. */
        void goOn(int weight, int visitorCount, Rules rules) {
            if (isOut()) {
                yearsOut--;
                return;
            }
            changeStep(weight, rules);
            if (weight >= rules.number(Rules.OUT_AT_ONCE) || step >= LAST_STEP) {
                hasSeal = false;
                step = 0;
                yearsOut = rules.number(Rules.YEARS_OUT);
            } else {
                hasSeal = visitorCount >= VISITORS_FOR_A_SEAL;
            }
        }

        private void changeStep(int weight, Rules rules) {
            if (weight >= rules.number(Rules.WARNING)) {
                step++;
            } else if (step > 0) {
                step--;
            }
        }
    }

    /** Who visits whom this YEAR, what they told, and who visited whom the YEAR before. */
    private static final class Visits {
        /** By FARM, as bits. */
        private final int[] visitors = new int[MOST_FARMS];
        private final int[] visitorsBefore = new int[MOST_FARMS];
        /** By FARM visited and VISITOR: the POINTS told as broken, as bits. */
        private final int[][] told = new int[MOST_FARMS][MOST_FARMS];
        private boolean laid = false;

        boolean areLaid() {
            return laid;
        }

        void setLaid() {
            laid = true;
        }

        void setVisitors(int f, int bits) {
            visitors[f] = bits;
        }

        boolean isVisitor(int v, int f) {
            return hasBit(visitors[f], v);
        }

        boolean wasVisitor(int v, int f) {
            return hasBit(visitorsBefore[f], v);
        }

        int visitorCount(int f) {
            return Integer.bitCount(visitors[f]);
        }

        int visitsBy(int v) {
            int made = 0;
            for (int f = 0; f < MOST_FARMS; f++) {
                made += oneIf(isVisitor(v, f));
            }
            return made;
        }

        int total() {
            int sum = 0;
            for (int f = 0; f < MOST_FARMS; f++) {
                sum += visitorCount(f);
            }
            return sum;
        }

        int visitorAt(int f, int i) {
            int before = 0;
            for (int v = 0; v < MOST_FARMS; v++) {
                if (isVisitor(v, f)) {
                    if (before == i) {
                        return v;
                    }
                    before++;
                }
            }
            return NONE;
        }

        void tell(int v, int f, int point, boolean isBroken) {
            if (isBroken) {
                told[f][v] |= 1 << point;
            } else {
                told[f][v] &= ~(1 << point);
            }
        }

        /** As bits: the POINTS that two at least told as broken. */
        int breachesAt(int f) {
            int byOne = 0;
            int byTwo = 0;
            for (int v = 0; v < MOST_FARMS; v++) {
                byTwo |= byOne & told[f][v];
                byOne |= told[f][v];
            }
            return byTwo;
        }

        /** As bits: the VISITORS that VOUCH for a FARM. */
        int vouchersFor(int f) {
            int vouchers = visitors[f];
            for (int v = 0; v < MOST_FARMS; v++) {
                if (told[f][v] != 0) {
                    vouchers &= ~(1 << v);
                }
            }
            return vouchers;
        }

        /** As bits: the FARMS for which one of these VOUCHES. */
        int vouchedForBy(int those) {
            int found = 0;
            for (int f = 0; f < MOST_FARMS; f++) {
                if ((vouchersFor(f) & those) != 0) {
                    found |= 1 << f;
                }
            }
            return found;
        }

        void endYear() {
            System.arraycopy(visitors, 0, visitorsBefore, 0, MOST_FARMS);
            Arrays.fill(visitors, 0);
            for (int f = 0; f < MOST_FARMS; f++) {
                Arrays.fill(told[f], 0);
            }
            laid = false;
        }
    }

    /**
     * Finds THE VISITS as a flow: from SOURCE to a visitor's place, to the place of a farm visited, to SINK.
     * A way from one place to another is open where one visit more (or, backwards, one less) can go.
     */
    private static final class Planner {
        private static final int SOURCE = 2 * MOST_FARMS;
        private static final int SINK = SOURCE + 1;
        private static final int PLACES = SINK + 1;
        private static final int MOST_VISITS_IN_ALL = MOST_FARMS * MOST_FARMS;

        /** By place, as bits: to which places a way is open. */
        private final int[] ways = new int[PLACES];
        private final int[] cameFrom = new int[PLACES];
        private final int[] queue = new int[PLACES];
        private final int[] visitors = new int[MOST_FARMS];
        private final int[] visitsMade = new int[MOST_FARMS];
        private int mostVisitors = 0;
        private int mostVisits = 0;

        int visitorsOf(int f) {
            return visitors[f];
        }

        void begin(int visitorsOfOne, int visitsByOne) {
            mostVisitors = visitorsOfOne;
            mostVisits = visitsByOne;
            Arrays.fill(ways, 0);
            Arrays.fill(visitors, 0);
            Arrays.fill(visitsMade, 0);
        }

        void allow(int v, int f) {
            setWay(v, placeVisited(f), true);
            openByLimits(v, f);
        }

        void planMost() {
            for (int round = 0; round < MOST_VISITS_IN_ALL; round++) {
                if (!findPath(SOURCE, SINK)) {
                    return;
                }
                followPath(SOURCE, SINK);
            }
        }

        /**
         * The row is least if each pair in turn visits whenever that costs no visit in all and leaves
         * the pairs before it as they are. A pair can be put in so if a path leads back from its farm to its visitor.
         */
        void planLeastRow(int farmCount) {
            for (int f = 0; f < farmCount && f < MOST_FARMS; f++) {
                for (int v = 0; v < farmCount && v < MOST_FARMS; v++) {
                    int visited = placeVisited(f);
                    if (hasBit(ways[v], visited) && findPath(visited, v)) {
                        followPath(visited, v);
                        addVisit(v, f);
                    }
                    setWay(v, visited, false);
                    setWay(visited, v, false);
                }
            }
        }

        private static int placeVisited(int f) {
            return MOST_FARMS + f;
        }

        private void setWay(int from, int to, boolean isOpen) {
            if (isOpen) {
                ways[from] |= 1 << to;
            } else {
                ways[from] &= ~(1 << to);
            }
        }

        private void openByLimits(int v, int f) {
            int visited = placeVisited(f);
            int visitorCount = Integer.bitCount(visitors[f]);
            setWay(SOURCE, v, visitsMade[v] < mostVisits);
            setWay(v, SOURCE, visitsMade[v] > 0);
            setWay(visited, SINK, visitorCount < mostVisitors);
            setWay(SINK, visited, visitorCount > 0);
        }

        private void addVisit(int v, int f) {
            visitors[f] |= 1 << v;
            visitsMade[v]++;
            setWay(v, placeVisited(f), false);
            setWay(placeVisited(f), v, true);
            openByLimits(v, f);
        }

        private void dropVisit(int v, int f) {
            visitors[f] &= ~(1 << v);
            visitsMade[v]--;
            setWay(v, placeVisited(f), true);
            setWay(placeVisited(f), v, false);
            openByLimits(v, f);
        }

        /** Looks at the nearest places first; cameFrom tells the path then. */
        private boolean findPath(int from, int to) {
            int seen = 1 << from;
            int queued = 1;
            queue[0] = from;
            for (int next = 0; next < queued && next < PLACES; next++) {
                int here = queue[next];
                int fresh = ways[here] & ~seen;
                seen |= fresh;
                for (int left = fresh; left != 0 && queued < PLACES; left &= left - 1) {
                    int place = lowestBit(left);
                    cameFrom[place] = here;
                    queue[queued] = place;
                    queued++;
                }
                if (hasBit(seen, to)) {
                    return true;
                }
            }
            return false;
        }

        private static int lowestBit(int bits) {
            return Integer.bitCount((bits & -bits) - 1);
        }

        private void followPath(int from, int to) {
            int here = to;
            for (int step = 0; step < PLACES && here != from; step++) {
                int before = cameFrom[here];
                moveVisit(before, here);
                here = before;
            }
        }

        /** SOURCE and SINK hold no visits of their own: a way to or from them changes none. */
        private void moveVisit(int from, int to) {
            if (from < MOST_FARMS && isBelow(to - MOST_FARMS, MOST_FARMS)) {
                addVisit(from, to - MOST_FARMS);
            } else if (to < MOST_FARMS && isBelow(from - MOST_FARMS, MOST_FARMS)) {
                dropVisit(to, from - MOST_FARMS);
            }
        }
    }
}
