/**
 * The boundary cases of the promises 1 to 19: a case for each sentence (or each part of one) that names such a boundary;
 * the number of the promise stands in the name of the case. Refusals asked by dueNone and dueFalse are followed by a
 * look at all that can be asked: "A call that is refused (NONE, false) changes nothing but the tape, where it is told."
 */
public final class BoundaryPromisesTest extends Cases {
    private static final String SIXTY = "n1;".repeat(18) + "v2;w34";

    public static void main(String[] args) throws IllegalAccessException {
        new BoundaryPromisesTest().runAll();
    }

    /** "No FARMS": whatever asks for one is refused. */
    void p01NoFarms() {
        PeerCircle circle = new PeerCircle();
        due("count(0)", circle.count(0), 0);
        for (int what = 0; what < 10; what++) {
            due("look(0, " + what + ")", circle.look(0, what), NONE);
        }
        due("visitor", circle.visitor(0, 0), NONE);
        due("breaches", circle.breaches(0), NONE);
        due("weighs", circle.weighs(0), NONE);
        due("vouches", circle.vouches(0, 0), NONE);
        due("trust", circle.trust(0, 0), NONE);
        due("barred", circle.barred(0, 0), NONE);
        due("buys", circle.buys(0, 1, true), false);
        due("tells", circle.tells(0, 0, 0, true), false);
        due("sell", circle.sell(0, 1), false);
        due("seals", circle.count(4), 0);
        due("out", circle.count(5), 0);
    }

    /** "YEAR 0" */
    void p01Year0() {
        due("count(1)", new PeerCircle().count(1), 0);
    }

    /** "THE VISITS are not laid." */
    void p01NotLaid() {
        PeerCircle circle = new PeerCircle();
        due("count(2)", circle.count(2), 0);
        due("count(3)", circle.count(3), 0);
        dueNone(circle, "year()", circle::year);
        due("lay()", circle.lay(), 0);
    }

    /** A new tape is empty: there is nothing that rules could take. */
    void p01EmptyTape() {
        PeerCircle circle = new PeerCircle();
        due("count(6)", circle.count(6), 0);
        dueNone(circle, "rules(1)", () -> circle.rules(1));
    }

    /** "Twenty bytes come behind the tape .. how many it has": to sixty, which is not more than 60. */
    void p02HowManyItHas() {
        PeerCircle circle = new PeerCircle();
        for (int bytes = 20; bytes <= 60; bytes += 20) {
            due("feed", circle.feed(0, 0, 0, 0, 0), bytes);
            due("count(6)", circle.count(6), bytes);
        }
    }

    /** "NONE if that would be more than 60": and what is on the tape stays as it is. */
    void p02NoneAbove60() {
        PeerCircle circle = new PeerCircle();
        due("sixty", Checks.feed(circle, SIXTY), 60);
        dueNone(circle, "eighty", () -> circle.feed(-1, -1, -1, -1, -1));
        dueNone(circle, "again", () -> circle.feed(LEAST, MOST, 0, -1, 1));
        due("the sixty are read", circle.rules(60), 0);
        due("n", circle.count(10), 1);
        due("v", circle.count(11), 2);
        due("w", circle.count(12), 34);
    }

    /** "come behind the tape" */
    void p02BehindTheTape() {
        PeerCircle circle = new PeerCircle();
        Checks.feed(circle, "n1;n1;n1;n1;n1;n1;w1");
        Checks.feed(circle, "23;n1;n1;n1;n1;n1;x4");
        Checks.feed(circle, "56;b7");
        due("over both seams", circle.rules(45), 0);
        due("w", circle.count(12), 123);
        due("x", circle.count(13), 456);
        due("b", circle.count(14), 7);
    }

    /** "the highest of each int first": bytes above 127 and below, at each of the twenty places. */
    void p02HighestOfEachIntFirst() {
        for (int place = 0; place < 20; place++) {
            char[] text = "n1;n1;n1;n1;n1;n1;n1".toCharArray();
            int fault = place % 3 == 0 ? 100 : place % 3 == 1 ? 200 : 500;
            for (int sign : new int[] {0, 127, 128, 255}) {
                text[place] = (char) sign;
                due("sign " + sign + " at " + place, Checks.rules(new PeerCircle(), new String(text)), fault + place);
            }
        }
        PeerCircle circle = new PeerCircle();
        due("'n5;v' and '4'", circle.feed(0x6e353b76, 0x34000000, LEAST, MOST, -1), 20);
        due("rules(5)", circle.rules(5), 0);
        due("n", circle.count(10), 5);
        due("v", circle.count(11), 4);
    }

    /** "the first n bytes of the tape": n up to all that it has, 60 too. */
    void p03TheFirstNBytes() {
        PeerCircle circle = new PeerCircle();
        Checks.feed(circle, "w1234;v1");
        due("a part of a number", circle.rules(3), 0);
        due("w", circle.count(12), 12);
        due("v as at first", circle.count(11), 3);
        Checks.feed(circle, "n1;n1;n1;n1;n1;n1;w1");
        due("all twenty", circle.rules(20), 0);
        due("w of twenty", circle.count(12), 1);
        Checks.feed(circle, SIXTY);
        due("all sixty", circle.rules(60), 0);
        due("w of sixty", circle.count(12), 34);
        Checks.feed(circle, SIXTY);
        due("all but one", circle.rules(59), 0);
        due("w of 59", circle.count(12), 3);
    }

    /** "(empty then)": the whole of it, not the first n bytes alone. */
    void p03TheTapeIsEmptyThen() {
        PeerCircle circle = new PeerCircle();
        Checks.feed(circle, SIXTY);
        due("two of sixty", circle.rules(2), 0);
        due("count(6)", circle.count(6), 0);
        dueNone(circle, "rules(1)", () -> circle.rules(1));
        due("a feed begins anew", Checks.feed(circle, "v7"), 20);
        due("rules(2)", circle.rules(2), 0);
        due("v", circle.count(11), 7);
    }

    /** "(empty then)": at a FAULT, too, and at no bytes at all. */
    void p03TheTapeIsEmptyBehindAFault() {
        PeerCircle circle = new PeerCircle();
        Checks.feed(circle, "q1");
        due("a fault", circle.rules(2), 100);
        due("count(6)", circle.count(6), 0);
        Checks.feed(circle, "n1");
        due("none of twenty", circle.rules(0), 100);
        due("count(6) then", circle.count(6), 0);
    }

    /** "are RULES from now on (THE VISITS that are laid stay)" */
    void p03TheVisitsStay() {
        PeerCircle circle = Circles.laid(8);
        due("rules", Checks.rules(circle, "n1;v0"), 0);
        due("the visits", circle.count(3), 24);
        due("the visitors of 0", circle.look(0, 8), 3);
        due("the visits by 0", circle.look(0, 9), 3);
        due("tells", circle.tells(circle.visitor(0, 2), 0, 0, true), true);
        due("year()", circle.year(), 1);
        due("seals by the visits that were", circle.count(4), 8);
        due("from now on", circle.lay(), 0);
    }

    /** "a FAULT: .. (they stay)": also what a clause before the fault told. */
    void p03TheRulesStayAtAFault() {
        String[] texts = {"", "n5;v5;w5;x5;b5;g5;", "n5;v5;w5;x5;b5;g5;q", "n5;v5;w5;x5;b5;g", "n5;v5;w5;x55555",
            "n5;v5;w5;x5;b5;g500", "n5;v5;w5;x5;b5;g5x", "n5;n0"};
        int[] faults = {100, 118, 118, 216, 314, 416, 517, 404};
        for (int i = 0; i < texts.length; i++) {
            PeerCircle circle = Circles.laid(4);
            Checks.rules(circle, "n2;v4;w6;x7;b8;g9");
            String before = State.of(circle);
            due(texts[i], Checks.rules(circle, texts[i]), faults[i]);
            dueSame(texts[i], before, State.of(circle));
        }
    }

    /** "NONE: it has not so many (the tape stays)" */
    void p03NoneIfItHasNotSoMany() {
        for (int feeds = 0; feeds <= 3; feeds++) {
            PeerCircle circle = new PeerCircle();
            for (int feed = 0; feed < feeds; feed++) {
                Checks.feed(circle, "n1;n1;n1;n1;n1;n1;n1");
            }
            int size = 20 * feeds;
            for (int n : new int[] {size + 1, 61, 80, MOST, -1, -20, LEAST}) {
                dueNone(circle, "rules(" + n + ") of " + size, () -> circle.rules(n));
            }
            due("and is read still", feeds == 0 ? 0 : circle.rules(20), 0);
            due("n", circle.count(10), feeds == 0 ? 3 : 1);
        }
    }

    /** "NONE: no such numbers" */
    void p04NoSuchNumbers() {
        for (PeerCircle circle : new PeerCircle[] {new PeerCircle(), Circles.of(9), Circles.busy()}) {
            int[][] wrong = {{-1, 0}, {8, 0}, {0, -1}, {0, 4}, {-1, -1}, {8, 4}, {MOST, 0}, {0, MOST}, {LEAST, 0}, {0, LEAST}, {256, 256}};
            for (int[] pair : wrong) {
                dueNone(circle, "farm(" + pair[0] + ", " + pair[1] + ")", () -> circle.farm(pair[0], pair[1]));
            }
        }
    }

    /** "10 are there": the tenth is taken, the eleventh is not. */
    void p04TenAreThere() {
        PeerCircle circle = Circles.of(9);
        due("the tenth", circle.farm(7, 3), 9);
        dueNone(circle, "the eleventh", () -> circle.farm(0, 0));
        circle.lay();
        dueNone(circle, "the eleventh when laid", () -> circle.farm(0, 0));
        circle.year();
        dueNone(circle, "the eleventh a year later", () -> circle.farm(0, 0));
        due("the last one's family", circle.look(9, 0), 7);
    }

    /** "A FARM: its number": one that comes when THE VISITS are laid begins with nothing. */
    void p04AFarmWhenLaid() {
        PeerCircle circle = Circles.busy();
        int visits = circle.count(3);
        due("farm", circle.farm(6, 2), 9);
        due("the visits stay", circle.count(3), visits);
        int[] fresh = {6, 2, 0, 0, 0, 0, 0, 0, 0, 0};
        for (int what = 0; what < fresh.length; what++) {
            due("look(9, " + what + ")", circle.look(9, what), fresh[what]);
        }
        due("it visits none", circle.tells(9, 0, 0, true), false);
        circle.year();
        due("it had no visitors, so no seal", circle.look(9, 2), 0);
    }

    /** "false: no such two": numbers that are no farms, and one farm twice. */
    void p05NoSuchTwo() {
        PeerCircle circle = Circles.busy();
        for (int wrong : new int[] {-1, 9, 10, 31, 32, 33, MOST, LEAST}) {
            for (boolean is : new boolean[] {true, false}) {
                dueFalse(circle, "buys(" + wrong + ", 0)", () -> circle.buys(wrong, 0, is));
                dueFalse(circle, "buys(0, " + wrong + ")", () -> circle.buys(0, wrong, is));
                dueFalse(circle, "buys(" + wrong + ", itself)", () -> circle.buys(wrong, wrong, is));
            }
        }
        for (int f = 0; f < 9; f++) {
            int one = f;
            dueFalse(circle, "from itself", () -> circle.buys(one, one, true));
            dueFalse(circle, "not from itself", () -> circle.buys(one, one, false));
        }
    }

    /** "it is so" */
    void p05ItIsSo() {
        PeerCircle circle = Circles.of(2);
        dueFalse(circle, "it does not", () -> circle.buys(0, 1, false));
        due("it does now", circle.buys(0, 1, true), true);
        dueFalse(circle, "it does", () -> circle.buys(0, 1, true));
        dueFalse(circle, "the other does not", () -> circle.buys(1, 0, false));
        due("not any more", circle.buys(0, 1, false), true);
        dueFalse(circle, "not any more already", () -> circle.buys(0, 1, false));
    }

    /** "false: no such two": kin are two, though they are barred already. */
    void p05KinAreTwo() {
        PeerCircle circle = new PeerCircle();
        circle.farm(5, 0);
        circle.farm(5, 0);
        due("kin buys", circle.buys(0, 1, true), true);
        due("no more", circle.buys(0, 1, false), true);
        due("kin still", circle.barred(0, 1), 1);
    }

    /** "false: no such ones" */
    void p06NoSuchOnes() {
        PeerCircle circle = Circles.busy();
        int[][] wrong = {{-1, 1}, {8, 1}, {0, 0}, {7, 100}, {-1, 0}, {8, 100}, {0, -1}, {32, 5}, {MOST, 5}, {LEAST, 5}, {0, MOST}, {0, LEAST}, {0, 256}};
        for (int[] pair : wrong) {
            dueFalse(circle, "weight(" + pair[0] + ", " + pair[1] + ")", () -> circle.weight(pair[0], pair[1]));
        }
    }

    /** "The WEIGHT of a POINT: true": the ends, the same again, and no other point's. */
    void p06TheEnds() {
        PeerCircle circle = new PeerCircle();
        due("weight(0, 99)", circle.weight(0, 99), true);
        due("weight(7, 99)", circle.weight(7, 99), true);
        due("the same again", circle.weight(7, 99), true);
        due("count(20)", circle.count(20), 99);
        due("count(21)", circle.count(21), 1);
        due("count(26)", circle.count(26), 1);
        due("count(27)", circle.count(27), 99);
        due("weight(0, 1)", circle.weight(0, 1), true);
        due("count(20) then", circle.count(20), 1);
    }

    /** "how many": none at all, and the most there can be. */
    void p07HowMany() {
        due("no farms", new PeerCircle().lay(), 0);
        due("one farm", Circles.of(1).lay(), 0);
        due("two farms", Circles.of(2).lay(), 2);
        due("ten farms", Circles.of(10).lay(), 30);
        PeerCircle most = Circles.of(10);
        Checks.rules(most, "n5;v9");
        due("fifty", most.lay(), 50);
        due("count(3)", most.count(3), 50);
    }

    /** "NONE: they are, this YEAR": even if there are none of them; not in the next year. */
    void p07NoneIfTheyAre() {
        PeerCircle busy = Circles.busy();
        dueNone(busy, "busy", busy::lay);
        PeerCircle empty = new PeerCircle();
        empty.lay();
        dueNone(empty, "no farms", empty::lay);
        empty.farm(0, 0);
        empty.farm(1, 0);
        dueNone(empty, "farms since", empty::lay);
        empty.year();
        due("in the next year", empty.lay(), 2);
    }

    /** "The i-th VISITOR of FARM f, by numbers": from 0, rising. */
    void p08ByNumbers() {
        PeerCircle circle = Circles.of(10);
        Checks.rules(circle, "n5;v9");
        circle.lay();
        for (int f = 0; f < 10; f++) {
            for (int i = 1; i < 5; i++) {
                due("rising at " + f, circle.visitor(f, i - 1) < circle.visitor(f, i), true);
            }
            due("the first is a farm", circle.visitor(f, 0) >= 0, true);
            due("behind the fifth", circle.visitor(f, 5), NONE);
        }
    }

    /** "NONE: there is none such" */
    void p08NoneSuch() {
        PeerCircle circle = Circles.laid(4);
        for (int i : new int[] {-1, 3, 4, 9, 10, 32, MOST, LEAST}) {
            dueNone(circle, "visitor(0, " + i + ")", () -> circle.visitor(0, i));
        }
        for (int f : new int[] {-1, 4, 9, 10, 32, MOST, LEAST}) {
            dueNone(circle, "visitor(" + f + ", 0)", () -> circle.visitor(f, 0));
        }
        PeerCircle alone = Circles.laid(1);
        due("it has no visitors", alone.visitor(0, 0), NONE);
    }

    /** "they are not laid" */
    void p08NotLaid() {
        PeerCircle circle = Circles.of(4);
        due("before", circle.visitor(0, 0), NONE);
        circle.lay();
        due("laid", circle.visitor(0, 0), 1);
        circle.year();
        due("a year later", circle.visitor(0, 0), NONE);
    }

    /** "false: it does not visit it" */
    void p09DoesNotVisit() {
        PeerCircle circle = Circles.of(9);
        dueFalse(circle, "not laid", () -> circle.tells(1, 0, 0, true));
        circle.lay();
        for (int v = 0; v < 9; v++) {
            for (int f = 0; f < 9; f++) {
                int visitor = v;
                int visited = f;
                boolean visits = circle.visitor(f, 0) == v || circle.visitor(f, 1) == v || circle.visitor(f, 2) == v;
                if (visits) {
                    due(v + " visits " + f, circle.tells(v, f, 0, false), true);
                } else {
                    dueFalse(circle, v + " does not visit " + f, () -> circle.tells(visitor, visited, 0, true));
                }
            }
        }
        circle.year();
        dueFalse(circle, "last year's visitor", () -> circle.tells(1, 0, 0, true));
    }

    /** "false: it does not visit it": numbers that are no farms. */
    void p09NoSuchFarms() {
        PeerCircle circle = Circles.busy();
        for (int wrong : new int[] {-1, 9, 10, 32, 33, 34, 35, MOST, LEAST}) {
            for (int f = 0; f < 9; f++) {
                int farm = f;
                dueFalse(circle, "tells(" + wrong + ", " + f + ")", () -> circle.tells(wrong, farm, 0, true));
                dueFalse(circle, "tells(" + f + ", " + wrong + ")", () -> circle.tells(farm, wrong, 0, true));
            }
            dueFalse(circle, "tells(" + wrong + ", itself)", () -> circle.tells(wrong, wrong, 0, true));
        }
    }

    /** "no such POINT" */
    void p09NoSuchPoint() {
        PeerCircle circle = Circles.laid(4);
        due("point 0", circle.tells(1, 0, 0, true), true);
        due("point 7", circle.tells(1, 0, 7, true), true);
        for (int point : new int[] {-1, 8, 31, 32, 39, MOST, LEAST}) {
            dueFalse(circle, "point " + point, () -> circle.tells(1, 0, point, true));
            dueFalse(circle, "not point " + point, () -> circle.tells(1, 0, point, false));
        }
    }

    /** "or not: true": even if it was told so already. */
    void p09TheSameAgain() {
        PeerCircle circle = Circles.laid(4);
        due("not broken, nothing told", circle.tells(1, 0, 0, false), true);
        due("broken", circle.tells(1, 0, 0, true), true);
        due("broken again", circle.tells(1, 0, 0, true), true);
        due("not broken", circle.tells(1, 0, 0, false), true);
        due("not broken again", circle.tells(1, 0, 0, false), true);
    }

    /** "as bits by POINTS": none, the first, the last, all. */
    void p10AsBits() {
        PeerCircle circle = Circles.laid(4);
        due("none", circle.breaches(0), 0);
        Circles.breach(circle, 0, 0);
        due("the first", circle.breaches(0), 1);
        Circles.breach(circle, 0, 7);
        due("the last, too", circle.breaches(0), 129);
        for (int point = 1; point < 7; point++) {
            Circles.breach(circle, 0, point);
        }
        due("all", circle.breaches(0), 255);
        due("at the next farm", circle.breaches(1), 0);
        circle.year();
        due("a year later", circle.breaches(0), 0);
    }

    /** "NONE: no such one" */
    void p10NoSuchOne() {
        PeerCircle circle = Circles.busy();
        due("the last farm", circle.breaches(8), 0);
        for (int f : new int[] {-1, 9, 10, 32, MOST, LEAST}) {
            dueNone(circle, "breaches(" + f + ")", () -> circle.breaches(f));
        }
    }

    /** "What the BREACHES that stand at FARM f weigh": nothing, and the most. */
    void p11NothingAndTheMost() {
        PeerCircle circle = Circles.laid(4);
        due("nothing", circle.weighs(0), 0);
        for (int point = 0; point < 8; point++) {
            circle.weight(point, 99);
            circle.tells(1, 0, point, true);
            due("told by one", circle.weighs(0), 99 * point);
            circle.tells(2, 0, point, true);
            due("told by two", circle.weighs(0), 99 * (point + 1));
        }
        circle.weight(7, 1);
        due("by the weight that it has now", circle.weighs(0), 99 * 7 + 1);
    }

    /** "NONE: no such one" */
    void p11NoSuchOne() {
        PeerCircle circle = Circles.busy();
        due("the last farm", circle.weighs(8), 0);
        for (int f : new int[] {-1, 9, 10, 32, MOST, LEAST}) {
            dueNone(circle, "weighs(" + f + ")", () -> circle.weighs(f));
        }
    }

    /** "Whether FARM v VOUCHES for FARM f: 1, 0": 0 for all that do not visit it. */
    void p12WhoDoesNotVisit() {
        PeerCircle circle = Circles.of(9);
        due("not laid", circle.vouches(1, 0), 0);
        circle.lay();
        due("itself", circle.vouches(0, 0), 0);
        due("kin", circle.vouches(8, 0), 0);
        int vouchers = 0;
        for (int v = 0; v < 9; v++) {
            vouchers += circle.vouches(v, 0);
        }
        due("as many as visit it", vouchers, 3);
        circle.year();
        due("a year later", circle.vouches(1, 0), 0);
    }

    /** "NONE: no such ones" */
    void p12NoSuchOnes() {
        PeerCircle circle = Circles.busy();
        for (int wrong : new int[] {-1, 9, 10, 32, 33, MOST, LEAST}) {
            dueNone(circle, "vouches(" + wrong + ", 0)", () -> circle.vouches(wrong, 0));
            dueNone(circle, "vouches(0, " + wrong + ")", () -> circle.vouches(0, wrong));
            dueNone(circle, "vouches(" + wrong + ", itself)", () -> circle.vouches(wrong, wrong));
        }
    }

    /** "STEPS OF TRUST from FARM a to FARM b": one way is not the other; nine is the most. */
    void p13OneWayAndNine() {
        PeerCircle circle = Circles.line();
        circle.lay();
        due("nine", circle.trust(0, 9), 9);
        due("nine back", circle.trust(9, 0), 9);
        circle.tells(1, 0, 0, true);
        due("nobody vouches for 0", circle.trust(9, 0), NONE);
        due("0 still vouches", circle.trust(0, 9), 9);
    }

    /** "NONE: there is no way" */
    void p13NoWay() {
        PeerCircle circle = Circles.of(2);
        due("not laid", circle.trust(0, 1), NONE);
        circle.buys(0, 1, true);
        circle.lay();
        due("no visits", circle.trust(0, 1), NONE);
        PeerCircle gap = Circles.line();
        gap.lay();
        gap.tells(4, 5, 7, true);
        for (int a = 0; a < 10; a++) {
            for (int b = 0; b < 10; b++) {
                due("a gap: trust(" + a + ", " + b + ")", gap.trust(a, b), a <= 4 && b >= 5 ? NONE : Math.abs(a - b));
            }
        }
    }

    /** "no such ones": not even from one to itself. */
    void p13NoSuchOnes() {
        PeerCircle circle = Circles.busy();
        for (int wrong : new int[] {-1, 9, 10, 32, 33, MOST, LEAST}) {
            dueNone(circle, "trust(" + wrong + ", 0)", () -> circle.trust(wrong, 0));
            dueNone(circle, "trust(0, " + wrong + ")", () -> circle.trust(0, wrong));
            dueNone(circle, "trust(" + wrong + ", itself)", () -> circle.trust(wrong, wrong));
        }
    }

    /** "n BASKETS (1 to 10000)" */
    void p14OneTo10000() {
        PeerCircle circle = Circles.laid(4);
        circle.year();
        due("1", circle.sell(0, 1), true);
        due("10000", circle.sell(0, 10000), true);
        for (int n : new int[] {0, -1, 10001, -10000, MOST, LEAST}) {
            dueFalse(circle, "sell(0, " + n + ")", () -> circle.sell(0, n));
        }
        due("sold", circle.look(0, 7), 10001);
    }

    /** "n BASKETS": as many as the calls of one object can sell. */
    void p14TheMostEver() {
        PeerCircle circle = Circles.laid(3);
        circle.year();
        for (int call = 0; call < 500; call++) {
            circle.sell(2, 10000);
        }
        due("this year", circle.look(2, 7), 5000000);
        due("ever", circle.look(2, 5), 5000000);
        due("another one", circle.look(1, 5), 0);
    }

    /** "false: no such ones" */
    void p14NoSuchOnes() {
        PeerCircle circle = Circles.busy();
        for (int f : new int[] {-1, 9, 10, 32, MOST, LEAST}) {
            dueFalse(circle, "sell(" + f + ", 1)", () -> circle.sell(f, 1));
        }
    }

    /** "it has none" */
    void p14ItHasNone() {
        PeerCircle circle = Circles.busy();
        due("farm 0 is out", circle.look(0, 4), 2);
        dueFalse(circle, "it sells nothing", () -> circle.sell(0, 1));
        due("a farm that came later", circle.farm(5, 0), 9);
        dueFalse(circle, "sells nothing either", () -> circle.sell(9, 1));
        due("one that has it", circle.sell(1, 1), true);
    }

    /** "A YEAR goes by (THE VISITS are not laid then)": and nothing of them is left but who is barred. */
    void p15NotLaidThen() {
        PeerCircle circle = Circles.laid(4);
        Circles.breach(circle, 0, 0);
        due("year()", circle.year(), 1);
        due("laid", circle.count(2), 0);
        due("visits", circle.count(3), 0);
        for (int f = 0; f < 4; f++) {
            due("visitors", circle.look(f, 8), 0);
            due("visits made", circle.look(f, 9), 0);
            due("visitor", circle.visitor(f, 0), NONE);
            due("breaches", circle.breaches(f), 0);
        }
        due("barred", circle.barred(1, 0), 1);
        circle.lay();
        circle.year();
        circle.lay();
        circle.tells(3, 0, 0, true);
        due("what was told two years ago does not count", circle.breaches(0), 0);
        due("1 vouches again", circle.vouches(1, 0), 1);
    }

    /** "which it is" */
    void p15WhichItIs() {
        PeerCircle circle = Circles.of(3);
        for (int year = 1; year <= 12; year++) {
            due("year()", Circles.layAndYear(circle), year);
            due("count(1)", circle.count(1), year);
        }
    }

    /** "NONE: they were not laid" */
    void p15NotLaid() {
        for (PeerCircle circle : new PeerCircle[] {new PeerCircle(), Circles.of(10), Circles.resting()}) {
            dueNone(circle, "year()", circle::year);
        }
    }

    /** "it would be above 500": no run of 512 calls comes so far, but the document names it. */
    void p15Above500() {
        PeerCircle circle = Circles.of(3);
        for (int year = 1; year < 500; year++) {
            Circles.layAndYear(circle);
        }
        due("the last", Circles.layAndYear(circle), 500);
        dueNone(circle, "not laid", circle::year);
        circle.lay();
        dueNone(circle, "above 500", circle::year);
        dueNone(circle, "and again", circle::year);
    }

    /** "1, 0; NONE: no such one" */
    void p16NoSuchOne() {
        PeerCircle circle = Circles.busy();
        due("group 0", circle.sealed(0), 1);
        due("group 3", circle.sealed(3), 0);
        for (int group : new int[] {-1, 4, 5, 32, MOST, LEAST}) {
            dueNone(circle, "sealed(" + group + ")", () -> circle.sealed(group));
        }
    }

    /** "Whether a GROUP is SEALED": by the rules and the farms that there are now. */
    void p16ByWhatIsNow() {
        PeerCircle circle = new PeerCircle();
        for (int f = 0; f < 3; f++) {
            circle.farm(f, 2);
        }
        Circles.layAndYear(circle);
        due("three of three", circle.sealed(2), 1);
        circle.farm(3, 2);
        circle.farm(4, 2);
        due("three of five, at sixty hundredths", circle.sealed(2), 1);
        circle.farm(5, 2);
        due("three of six", circle.sealed(2), 0);
        Checks.rules(circle, "g50");
        due("at fifty hundredths", circle.sealed(2), 1);
        Checks.rules(circle, "g51");
        due("at 51", circle.sealed(2), 0);
    }

    /** "Whether FARM v is BARRED from FARM f now" */
    void p17Now() {
        PeerCircle circle = Circles.laid(4);
        due("a visitor of this year", circle.barred(1, 0), 0);
        circle.buys(1, 0, true);
        due("who buys now, though it visits", circle.barred(1, 0), 1);
        circle.buys(1, 0, false);
        due("and now does not", circle.barred(1, 0), 0);
        circle.year();
        due("a visitor of the year before", circle.barred(1, 0), 1);
    }

    /** "NONE: no such ones": not even one from itself. */
    void p17NoSuchOnes() {
        PeerCircle circle = Circles.busy();
        for (int wrong : new int[] {-1, 9, 10, 32, 33, MOST, LEAST}) {
            dueNone(circle, "barred(" + wrong + ", 0)", () -> circle.barred(wrong, 0));
            dueNone(circle, "barred(0, " + wrong + ")", () -> circle.barred(0, wrong));
            dueNone(circle, "barred(" + wrong + ", itself)", () -> circle.barred(wrong, wrong));
        }
    }

    /** "what 0 FAMILY .. 9 VISITS that it makes": each of them, of farms that differ in it. */
    void p18EachWhat() {
        PeerCircle circle = Circles.busy();
        due("0 family", circle.look(7, 0), 7);
        due("0 family of 8", circle.look(8, 0), 0);
        due("1 group", circle.look(8, 1), 0);
        due("2 seal", circle.look(1, 2), 1);
        due("2 no seal", circle.look(0, 2), 0);
        due("3 step", circle.look(1, 3), 1);
        due("3 no step", circle.look(0, 3), 0);
        due("4 out", circle.look(0, 4), 2);
        due("4 not out", circle.look(1, 4), 0);
        due("5 sold ever", circle.look(1, 5), 50);
        due("5 sold ever by 2", circle.look(2, 5), 70);
        due("6 doubtful", circle.look(1, 6), 50);
        due("6 none doubtful", circle.look(2, 6), 0);
        due("7 sold this year", circle.look(2, 7), 70);
        due("7 none this year", circle.look(1, 7), 0);
        due("8 visitors", circle.look(0, 8), 3);
        due("9 visits", circle.look(0, 9), 3);
    }

    /** "4 YEARS for which it is OUT still (0: it is not)" */
    void p18OutStill() {
        PeerCircle circle = Circles.resting();
        int[] left = {2, 1, 0, 0};
        for (int years : left) {
            due("look(0, 4)", circle.look(0, 4), years);
            due("count(5)", circle.count(5), years > 0 ? 1 : 0);
            Circles.layAndYear(circle);
        }
    }

    /** "8 its VISITORS, 9 VISITS that it makes": 0 when not laid; they need not be alike. */
    void p18VisitorsAndVisits() {
        PeerCircle circle = Circles.oneAndNineKin();
        due("not laid: visitors", circle.look(0, 8), 0);
        due("not laid: visits", circle.look(0, 9), 0);
        Checks.rules(circle, "n5;v9");
        circle.lay();
        due("visitors of 0", circle.look(0, 8), 5);
        due("visits by 0", circle.look(0, 9), 9);
        due("visitors of 9", circle.look(9, 8), 1);
        due("visits by 9", circle.look(9, 9), 0);
        due("the one visit by 1 is to farm 0", circle.look(1, 9), 1);
        circle.year();
        due("a year later: visitors", circle.look(0, 8), 0);
        due("a year later: visits", circle.look(0, 9), 0);
    }

    /** "NONE for others." */
    void p18NoneForOthers() {
        PeerCircle circle = Circles.busy();
        for (int what : new int[] {-1, 10, 11, 32, 256, MOST, LEAST}) {
            dueNone(circle, "look(0, " + what + ")", () -> circle.look(0, what));
        }
        for (int f : new int[] {-1, 9, 10, 32, MOST, LEAST}) {
            for (int what = 0; what < 10; what++) {
                due("look(" + f + ", " + what + ")", circle.look(f, what), NONE);
            }
        }
    }

    /** "0 FARMS .. 6 bytes of the tape; 10 to 15 RULES' n, v, w, x, b, g; 20 + p the WEIGHT of a POINT." */
    void p19EachWhat() {
        PeerCircle circle = Circles.busy();
        int[] low = {9, 2, 1, 27, 8, 1, 20};
        for (int what = 0; what < low.length; what++) {
            due("count(" + what + ")", circle.count(what), low[what]);
        }
        PeerCircle ruled = new PeerCircle();
        Checks.rules(ruled, "n4;v5;w6;x7;b8;g9");
        for (int what = 10; what <= 15; what++) {
            due("count(" + what + ")", ruled.count(what), what - 6);
        }
        for (int point = 0; point < 8; point++) {
            ruled.weight(point, 90 + point);
        }
        for (int point = 0; point < 8; point++) {
            due("count(" + (20 + point) + ")", ruled.count(20 + point), 90 + point);
        }
    }

    /** "4 SEALS, 5 those OUT": none, some, all. */
    void p19SealsAndThoseOut() {
        PeerCircle circle = Circles.of(8);
        due("no seals", circle.count(4), 0);
        due("none out", circle.count(5), 0);
        Circles.layAndYear(circle);
        due("all seals", circle.count(4), 8);
        due("none out still", circle.count(5), 0);
        Checks.rules(circle, "x1;b1");
        circle.lay();
        for (int f = 0; f < 8; f++) {
            Circles.breach(circle, f, 0);
        }
        circle.year();
        due("no seals any more", circle.count(4), 0);
        due("all out", circle.count(5), 8);
        Circles.layAndYear(circle);
        due("none out any more", circle.count(5), 0);
        due("and no seals yet", circle.count(4), 0);
    }

    /** "NONE for others.": each number next to one that is promised, and those that wrap around to one. */
    void p19NoneForOthers() {
        PeerCircle circle = Circles.busy();
        for (int what : new int[] {-1, 7, 8, 9, 16, 17, 18, 19, 28, 29, 30, 32, 64, 256, MOST, LEAST, LEAST + 6, LEAST + 10, LEAST + 20}) {
            dueNone(circle, "count(" + what + ")", () -> circle.count(what));
        }
    }
}
