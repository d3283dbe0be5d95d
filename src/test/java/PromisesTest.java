/** Each promise by hand: ordinary inputs, the edges that the document names, and wrong inputs. */
public final class PromisesTest {
    private static final int NONE = PeerCircle.NONE;
    private static final int LEAST = Integer.MIN_VALUE;
    private static final int MOST = Integer.MAX_VALUE;

    private final Checks checks = new Checks();

    public static void main(String[] args) {
        PromisesTest test = new PromisesTest();
        test.newObject();
        test.feed();
        test.rules();
        test.rulesFaults();
        test.rulesStayOrGo();
        test.farm();
        test.buys();
        test.weight();
        test.lay();
        test.layLeastRow();
        test.layByWhatIsToldThen();
        test.visitor();
        test.tells();
        test.breaches();
        test.weighs();
        test.vouches();
        test.trust();
        test.sell();
        test.doubtful();
        test.yearSteps();
        test.yearOut();
        test.yearSeals();
        test.yearRefused();
        test.sealed();
        test.barred();
        test.look();
        test.count();
        test.checks.end();
    }

    private void due(String call, long got, long want) {
        checks.due(call, got, want);
    }

    private void due(String call, boolean got, boolean want) {
        checks.due(call, got, want);
    }

    private void newObject() {
        PeerCircle circle = new PeerCircle();
        int[] first = {0, 0, 0, 0, 0, 0, 0};
        for (int what = 0; what < first.length; what++) {
            due("new: count(" + what + ")", circle.count(what), first[what]);
        }
        int[] rules = {3, 3, 3, 9, 2, 60};
        for (int kind = 0; kind < rules.length; kind++) {
            due("new: count(" + (10 + kind) + ")", circle.count(10 + kind), rules[kind]);
        }
        for (int point = 0; point < 8; point++) {
            due("new: count(" + (20 + point) + ")", circle.count(20 + point), 1);
        }
        due("new: look(0, 0)", circle.look(0, 0), NONE);
        due("new: year()", circle.year(), NONE);
        PeerCircle other = new PeerCircle();
        other.farm(0, 0);
        other.weight(0, 5);
        Checks.rules(other, "n1");
        due("another one's farm", circle.count(0), 0);
        due("another one's weight", circle.count(20), 1);
        due("another one's rules", circle.count(10), 3);
    }

    private void feed() {
        PeerCircle circle = new PeerCircle();
        due("feed 20", circle.feed(0, 0, 0, 0, 0), 20);
        due("feed 40", circle.feed(-1, -1, -1, -1, -1), 40);
        due("feed 60", circle.feed(LEAST, MOST, 0, 0, 0), 60);
        due("feed 80", circle.feed(0, 0, 0, 0, 0), NONE);
        due("feed: the tape stays", circle.count(6), 60);
        circle.rules(0);
        due("feed behind an empty tape", circle.feed(0, 0, 0, 0, 0), 20);
        // the highest byte of each int comes first, and the ints in their order
        circle = new PeerCircle();
        due("feed a text", Checks.feed(circle, "n5;v9;w0123;x4567;b1"), 20);
        due("rules of it", circle.rules(20), 0);
        int[] read = {5, 9, 123, 4567, 1, 60};
        for (int kind = 0; kind < read.length; kind++) {
            due("fed count(" + (10 + kind) + ")", circle.count(10 + kind), read[kind]);
        }
        // a feed comes behind what is there
        circle = new PeerCircle();
        Checks.feed(circle, "n5;v9;w0123;x4567;b1");
        due("feed behind", Checks.feed(circle, "3;g7"), 40);
        due("rules over two feeds", circle.rules(24), 0);
        due("b over two feeds", circle.count(14), 13);
        due("g over two feeds", circle.count(15), 7);
    }

    private void rules() {
        String[] texts = {"n1", "n5", "v0", "v9", "w1", "w9999", "x1", "x9999", "b1", "b20", "g0", "g100", "n0003", "w0001"};
        int[] kinds = {10, 10, 11, 11, 12, 12, 13, 13, 14, 14, 15, 15, 10, 12};
        int[] numbers = {1, 5, 0, 9, 1, 9999, 1, 9999, 1, 20, 0, 100, 3, 1};
        for (int i = 0; i < texts.length; i++) {
            PeerCircle circle = new PeerCircle();
            due("rules " + texts[i], Checks.rules(circle, texts[i]), 0);
            due("of " + texts[i], circle.count(kinds[i]), numbers[i]);
        }
        PeerCircle circle = new PeerCircle();
        due("the later counts", Checks.rules(circle, "n1;n2;v4;n5;v7"), 0);
        due("n", circle.count(10), 5);
        due("v", circle.count(11), 7);
        due("what no clause tells", Checks.rules(circle, "g1"), 0);
        due("n as at first", circle.count(10), 3);
        due("v as at first", circle.count(11), 3);
        due("g told", circle.count(15), 1);
        due("w above x", Checks.rules(circle, "w50;x4"), 0);
        due("sixty bytes", Checks.rules(circle, "n1;n2;n3;n4;n5;n1;n2;n3;n4;n5;n1;n2;n3;n4;n5;n1;n2;n3;n4;w11"), 0);
        due("their n", circle.count(10), 4);
        due("their w", circle.count(12), 11);
    }

    private void rulesFaults() {
        String[] texts = {
            "", "q1", "N1", " n1", "1", ";", "n1;", "n1;;v1", "n1; v1", "n1;z",
            "n", "v;", "nn1", "n 1", "g-1", "n1;w",
            "w12345", "n99999", "w00001", "n1;x123456",
            "n0", "n6", "v10", "w0", "w0000", "x0", "b0", "b21", "g101", "n0003;n0006", "n9x", "n1;v2;g999",
            "n1 ", "n1v1", "n1,v1", "w9999x", "n1:v1", "n0;n1", "n3/", "n\u00b11", "\u00ee1"};
        int[] due = {
            100, 100, 100, 100, 100, 100, 103, 103, 103, 103,
            201, 201, 201, 201, 201, 204,
            305, 305, 305, 308,
            401, 401, 401, 401, 401, 401, 401, 401, 401, 407, 401, 407,
            502, 502, 502, 505, 502, 401, 502, 201, 100};
        for (int i = 0; i < texts.length; i++) {
            PeerCircle circle = new PeerCircle();
            Checks.rules(circle, "n2;v4;w5;x6;b7;g8");
            due("rules '" + texts[i] + "'", Checks.rules(circle, texts[i]), due[i]);
            due("a fault empties the tape", circle.count(6), 0);
            int[] stay = {2, 4, 5, 6, 7, 8};
            for (int kind = 0; kind < stay.length; kind++) {
                due("behind '" + texts[i] + "' count(" + (10 + kind) + ")", circle.count(10 + kind), stay[kind]);
            }
        }
        PeerCircle circle = new PeerCircle();
        due("a fault at the end of sixty", Checks.rules(circle, "n1;n2;n3;n4;n5;n1;n2;n3;n4;n5;n1;n2;n3;n4;n5;n1;n2;n3;n4;n5;"), 160);
    }

    private void rulesStayOrGo() {
        PeerCircle circle = new PeerCircle();
        Checks.feed(circle, "n4;v5");
        due("rules(21) of 20", circle.rules(21), NONE);
        due("rules(-1)", circle.rules(-1), NONE);
        due("rules(LEAST)", circle.rules(LEAST), NONE);
        due("rules(MOST)", circle.rules(MOST), NONE);
        due("the tape stays", circle.count(6), 20);
        due("the first two bytes only", circle.rules(2), 0);
        due("n of them", circle.count(10), 4);
        due("v not read", circle.count(11), 3);
        due("the whole tape is empty", circle.count(6), 0);
        due("rules(1) of an empty tape", circle.rules(1), NONE);
        due("rules(0) of an empty tape", circle.rules(0), 100);
        circle = Circles.laid(4);
        due("rules when laid", Checks.rules(circle, "n1;v1"), 0);
        due("the visits that are laid stay", circle.count(3), 12);
        due("visitor stays", circle.visitor(0, 2), 3);
    }

    private void farm() {
        PeerCircle circle = new PeerCircle();
        int[][] wrong = {{8, 0}, {-1, 0}, {0, 4}, {0, -1}, {LEAST, LEAST}, {MOST, MOST}};
        for (int[] pair : wrong) {
            due("farm(" + pair[0] + ", " + pair[1] + ")", circle.farm(pair[0], pair[1]), NONE);
        }
        due("no farm", circle.count(0), 0);
        for (int f = 0; f < 10; f++) {
            due("farm " + f, circle.farm(7 - f % 8, f % 4), f);
            due("its family", circle.look(f, 0), 7 - f % 8);
            due("its group", circle.look(f, 1), f % 4);
        }
        due("an eleventh", circle.farm(0, 0), NONE);
        due("ten", circle.count(0), 10);
        circle = Circles.laid(3);
        due("a farm when the visits are laid", circle.farm(5, 0), 3);
        due("has no visitors", circle.look(3, 8), 0);
        due("makes no visits", circle.look(3, 9), 0);
        circle.year();
        due("and gets no seal", circle.look(3, 2), 0);
        due("others do", circle.look(0, 2), 1);
    }

    private void buys() {
        PeerCircle circle = Circles.of(3);
        due("does not buy", circle.buys(0, 1, false), false);
        due("buys", circle.buys(0, 1, true), true);
        due("it is so", circle.buys(0, 1, true), false);
        due("the other way is another matter", circle.buys(1, 0, false), false);
        due("both ways", circle.buys(1, 0, true), true);
        due("not any more", circle.buys(0, 1, false), true);
        due("it is not", circle.buys(0, 1, false), false);
        due("the other way stays", circle.barred(0, 1), 1);
        due("not that either", circle.buys(1, 0, false), true);
        due("none buys", circle.barred(0, 1), 0);
        int[][] wrong = {{0, 0}, {0, 3}, {3, 0}, {-1, 0}, {0, -1}, {LEAST, MOST}, {32, 0}, {0, 32}, {0, 33}};
        for (int[] pair : wrong) {
            due("buys " + pair[0] + " " + pair[1], circle.buys(pair[0], pair[1], true), false);
            due("buys not " + pair[0] + " " + pair[1], circle.buys(pair[0], pair[1], false), false);
        }
        due("nothing came of it", circle.barred(0, 1) + circle.barred(1, 0) + circle.barred(0, 2) + circle.barred(1, 2), 0);
    }

    private void weight() {
        PeerCircle circle = new PeerCircle();
        due("weight(0, 1)", circle.weight(0, 1), true);
        due("weight(7, 99)", circle.weight(7, 99), true);
        due("weight(7, 98)", circle.weight(7, 98), true);
        due("the same again", circle.weight(7, 98), true);
        int[][] wrong = {{-1, 5}, {8, 5}, {0, 0}, {0, 100}, {0, -1}, {LEAST, MOST}, {MOST, LEAST}, {0, MOST}};
        for (int[] pair : wrong) {
            due("weight(" + pair[0] + ", " + pair[1] + ")", circle.weight(pair[0], pair[1]), false);
        }
        due("count(20)", circle.count(20), 1);
        due("count(27)", circle.count(27), 98);
    }

    private void lay() {
        due("no farms", new PeerCircle().lay(), 0);
        due("one farm", Circles.of(1).lay(), 0);
        due("two farms", Circles.of(2).lay(), 2);
        PeerCircle circle = Circles.of(8);
        due("eight farms", circle.lay(), 24);
        for (int f = 0; f < 8; f++) {
            due("visitors of " + f, circle.look(f, 8), 3);
            due("visits by " + f, circle.look(f, 9), 3);
        }
        due("laid already", circle.lay(), NONE);
        due("and they stay", circle.count(3), 24);
        circle.year();
        due("a new year's", circle.lay(), 24);
        circle = Circles.of(5);
        Checks.rules(circle, "v0");
        due("no visits at all", circle.lay(), 0);
        due("but laid", circle.count(2), 1);
        due("laid with none", circle.lay(), NONE);
        PeerCircle kin = new PeerCircle();
        for (int f = 0; f < 10; f++) {
            kin.farm(4, f % 4);
        }
        due("all kin", kin.lay(), 0);
        circle = new PeerCircle();
        for (int f = 0; f < 10; f++) {
            circle.farm(f % 8, 0);
        }
        Checks.rules(circle, "n5;v9");
        due("fifty visits", circle.lay(), 50);
    }

    private void layLeastRow() {
        // most visits come first: farm 0 would like 1, but only 1 can go to farm 2
        PeerCircle circle = new PeerCircle();
        circle.farm(0, 0);
        circle.farm(1, 0);
        circle.farm(2, 0);
        circle.farm(3, 0);
        Checks.rules(circle, "n1;v1");
        circle.buys(2, 0, true);
        circle.buys(2, 3, true);
        due("four visits", circle.lay(), 4);
        due("visitor(0, 0)", circle.visitor(0, 0), 3);
        due("visitor(1, 0)", circle.visitor(1, 0), 2);
        due("visitor(2, 0)", circle.visitor(2, 0), 1);
        due("visitor(3, 0)", circle.visitor(3, 0), 0);
        // of like ways a lack comes late: ten is more than any number
        circle = Circles.of(3);
        Checks.rules(circle, "n2;v1");
        due("three visits", circle.lay(), 3);
        due("visitor(0, 0) first", circle.visitor(0, 0), 1);
        due("visitor(0, 1) first", circle.visitor(0, 1), 2);
        due("visitor(1, 0) then", circle.visitor(1, 0), 0);
        due("visitor(2, 0) lacks", circle.visitor(2, 0), NONE);
    }

    private void layByWhatIsToldThen() {
        PeerCircle circle = Circles.laid(4);
        circle.buys(0, 1, true);
        due("told too late", circle.count(3), 12);
        due("1 visits 0 still", circle.visitor(0, 0), 1);
        due("and tells", circle.tells(1, 0, 0, true), true);
        circle.farm(6, 0);
        due("who came too late visits none", circle.look(4, 9), 0);
        circle.year();
        due("only who came late, and where it goes", circle.lay(), 6);
        due("visits by 4", circle.look(4, 9), 3);
        due("visitors of 4", circle.look(4, 8), 3);
        // who is out visits and is visited, too
        circle = Circles.laid(4);
        circle.weight(0, 99);
        Circles.breach(circle, 0, 0);
        circle.year();
        due("0 is out", circle.look(0, 4), 2);
        circle.lay();
        circle.year();
        due("all visit in the year after", circle.lay(), 12);
        due("visitors of one that is out", circle.look(0, 8), 3);
        due("visits by one that is out", circle.look(0, 9), 3);
    }

    private void visitor() {
        PeerCircle circle = Circles.of(4);
        due("not laid", circle.visitor(0, 0), NONE);
        circle.lay();
        int[] ofTwo = {0, 1, 3, NONE};
        for (int i = 0; i < ofTwo.length; i++) {
            due("visitor(2, " + i + ")", circle.visitor(2, i), ofTwo[i]);
        }
        int[][] wrong = {{0, -1}, {0, 3}, {0, MOST}, {0, LEAST}, {4, 0}, {-1, 0}, {MOST, 0}, {LEAST, 0}};
        for (int[] pair : wrong) {
            due("visitor(" + pair[0] + ", " + pair[1] + ")", circle.visitor(pair[0], pair[1]), NONE);
        }
        circle.year();
        due("not laid any more", circle.visitor(2, 0), NONE);
    }

    private void tells() {
        PeerCircle circle = Circles.of(4);
        due("not laid", circle.tells(1, 0, 0, true), false);
        circle.lay();
        due("tells(1, 0, 0, true)", circle.tells(1, 0, 0, true), true);
        due("the same again", circle.tells(1, 0, 0, true), true);
        due("tells(1, 0, 7, false)", circle.tells(1, 0, 7, false), true);
        int[][] wrong = {{0, 0, 0}, {1, 0, 8}, {1, 0, -1}, {1, 4, 0}, {4, 0, 0}, {-1, 0, 0}, {1, -1, 0},
            {MOST, 0, 0}, {1, LEAST, 0}, {1, 0, MOST}, {33, 0, 0}, {1, 0, 32}};
        for (int[] three : wrong) {
            due("tells " + three[0] + " " + three[1] + " " + three[2], circle.tells(three[0], three[1], three[2], true), false);
            due("tells not " + three[0], circle.tells(three[0], three[1], three[2], false), false);
        }
        due("only one told", circle.breaches(0), 0);
        due("2 vouches still", circle.vouches(2, 0), 1);
        // who does not visit tells nothing
        circle = Circles.of(4);
        circle.buys(1, 0, true);
        circle.lay();
        due("1 does not visit 0", circle.tells(1, 0, 0, true), false);
        due("nor 0 visits 1", circle.tells(0, 1, 0, true), false);
        // what was told last year is forgotten
        circle = Circles.laid(4);
        Circles.breach(circle, 0, 3);
        circle.year();
        due("a new year", circle.breaches(0), 0);
        circle.lay();
        circle.year();
        circle.lay();
        due("1 visits 0 again", circle.vouches(1, 0), 1);
        circle.tells(1, 0, 3, true);
        due("1 alone this year", circle.breaches(0), 0);
    }

    private void breaches() {
        PeerCircle circle = Circles.of(4);
        due("not laid", circle.breaches(0), 0);
        circle.lay();
        due("nothing told", circle.breaches(0), 0);
        circle.tells(1, 0, 0, true);
        circle.tells(2, 0, 7, true);
        due("not alike", circle.breaches(0), 0);
        circle.tells(3, 0, 7, true);
        due("two alike", circle.breaches(0), 128);
        circle.tells(2, 0, 0, true);
        due("two points", circle.breaches(0), 129);
        circle.tells(1, 0, 7, true);
        due("all three", circle.breaches(0), 129);
        circle.tells(2, 0, 7, false);
        due("two of three left", circle.breaches(0), 129);
        circle.tells(3, 0, 7, false);
        due("one left", circle.breaches(0), 1);
        due("at another farm", circle.breaches(1), 0);
        for (int f : new int[] {-1, 4, MOST, LEAST}) {
            due("breaches(" + f + ")", circle.breaches(f), NONE);
            due("weighs(" + f + ")", circle.weighs(f), NONE);
        }
    }

    private void weighs() {
        PeerCircle circle = Circles.laid(4);
        due("nothing", circle.weighs(0), 0);
        for (int point = 0; point < 8; point++) {
            circle.weight(point, 10 + point);
            Circles.breach(circle, 0, point);
        }
        due("all points", circle.weighs(0), 10 * 8 + 28);
        circle.weight(3, 99);
        due("the weight now", circle.weighs(0), 10 * 8 + 28 - 13 + 99);
        circle.tells(1, 0, 3, false);
        due("without it", circle.weighs(0), 10 * 8 + 28 - 13);
        due("at another farm", circle.weighs(1), 0);
    }

    private void vouches() {
        PeerCircle circle = Circles.of(4);
        due("not laid", circle.vouches(1, 0), 0);
        circle.buys(3, 0, true);
        circle.lay();
        due("a visitor", circle.vouches(1, 0), 1);
        due("itself", circle.vouches(0, 0), 0);
        due("no visitor", circle.vouches(3, 0), 0);
        circle.tells(1, 0, 4, false);
        due("told as not broken", circle.vouches(1, 0), 1);
        circle.tells(1, 0, 4, true);
        circle.tells(1, 0, 5, true);
        due("told as broken", circle.vouches(1, 0), 0);
        due("for another one", circle.vouches(1, 2), 1);
        circle.tells(1, 0, 4, false);
        due("one point left", circle.vouches(1, 0), 0);
        circle.tells(1, 0, 5, false);
        due("none left", circle.vouches(1, 0), 1);
        int[][] wrong = {{4, 0}, {0, 4}, {-1, 0}, {0, -1}, {MOST, 0}, {0, LEAST}, {32, 32}};
        for (int[] pair : wrong) {
            due("vouches(" + pair[0] + ", " + pair[1] + ")", circle.vouches(pair[0], pair[1]), NONE);
            due("trust(" + pair[0] + ", " + pair[1] + ")", circle.trust(pair[0], pair[1]), NONE);
            due("barred(" + pair[0] + ", " + pair[1] + ")", circle.barred(pair[0], pair[1]), NONE);
        }
        circle.year();
        due("not laid any more", circle.vouches(1, 0), 0);
    }

    private void trust() {
        PeerCircle circle = Circles.line();
        due("not laid", circle.trust(0, 1), NONE);
        due("itself", circle.trust(9, 9), 0);
        due("a line of ten", circle.lay(), 18);
        for (int b = 0; b < 10; b++) {
            due("trust(0, " + b + ")", circle.trust(0, b), b);
            due("trust(9, " + b + ")", circle.trust(9, b), 9 - b);
        }
        circle.tells(4, 5, 0, true);
        due("up to the gap", circle.trust(0, 4), 4);
        due("over the gap", circle.trust(0, 5), NONE);
        due("the other way", circle.trust(9, 0), 9);
        // broken trust goes round about
        circle = Circles.laid(3);
        due("direct", circle.trust(0, 1), 1);
        circle.tells(0, 1, 0, true);
        due("over 2", circle.trust(0, 1), 2);
        due("back", circle.trust(1, 0), 1);
        circle.tells(2, 1, 5, true);
        due("no way", circle.trust(0, 1), NONE);
        due("itself still", circle.trust(1, 1), 0);
        circle.tells(2, 1, 5, false);
        due("a way again", circle.trust(0, 1), 2);
    }

    private void sell() {
        PeerCircle circle = Circles.laid(4);
        due("no seal yet", circle.sell(0, 1), false);
        circle.year();
        due("sell(0, 1)", circle.sell(0, 1), true);
        due("sell(0, 10000)", circle.sell(0, 10000), true);
        int[][] wrong = {{0, 0}, {0, -1}, {0, 10001}, {0, MOST}, {0, LEAST}, {4, 1}, {-1, 1}, {MOST, 1}, {LEAST, 1}};
        for (int[] pair : wrong) {
            due("sell(" + pair[0] + ", " + pair[1] + ")", circle.sell(pair[0], pair[1]), false);
        }
        due("this year", circle.look(0, 7), 10001);
        due("ever", circle.look(0, 5), 10001);
        due("another one", circle.look(1, 5), 0);
        circle.lay();
        circle.year();
        due("this new year", circle.look(0, 7), 0);
        due("ever, still", circle.look(0, 5), 10001);
        due("no visitors, no seal", circle.sell(0, 1), false);
    }

    private void doubtful() {
        PeerCircle circle = Circles.of(8);
        circle.lay();
        circle.year();
        circle.sell(0, 7);
        circle.sell(1, 8);
        circle.lay();
        Circles.breach(circle, 0, 2);
        Circles.breach(circle, 1, 2);
        due("not before the year's end", circle.look(0, 6), 0);
        circle.tells(circle.visitor(1, 0), 1, 2, false);
        circle.year();
        due("sold in a year with a breach", circle.look(0, 6), 7);
        due("the breach did not stand at the end", circle.look(1, 6), 0);
        circle.sell(0, 100);
        circle.lay();
        circle.year();
        due("a year without a breach", circle.look(0, 6), 7);
        due("ever", circle.look(0, 5), 107);
        circle.sell(0, 30);
        circle.lay();
        circle.weight(0, 99);
        Circles.breach(circle, 0, 0);
        circle.year();
        due("and again", circle.look(0, 6), 37);
        due("out by it", circle.look(0, 4), 2);
    }

    private void yearSteps() {
        PeerCircle circle = Circles.of(8);
        Checks.rules(circle, "w3;x9;b2");
        circle.weight(0, 2);
        circle.weight(1, 3);
        circle.weight(2, 8);
        int[] points = {0, 1, 0, 2, 1, 0, 0, 0, 1, 2, 1};
        int[] steps = {0, 1, 0, 1, 2, 1, 0, 0, 1, 2, 0};
        for (int i = 0; i < points.length; i++) {
            circle.lay();
            Circles.breach(circle, 0, points[i]);
            circle.year();
            due("step in year " + (i + 1), circle.look(0, 3), steps[i]);
            due("out in year " + (i + 1), circle.look(0, 4), i == points.length - 1 ? 2 : 0);
            due("seal in year " + (i + 1), circle.look(0, 2), i == points.length - 1 ? 0 : 1);
            due("no step of another", circle.look(1, 3), 0);
        }
        // what makes one out comes first, even where a warning needs more
        circle = Circles.laid(8);
        Checks.rules(circle, "w50;x4;b1");
        circle.weight(0, 4);
        Circles.breach(circle, 0, 0);
        circle.weight(1, 3);
        Circles.breach(circle, 1, 1);
        circle.year();
        due("x below w", circle.look(0, 4), 1);
        due("below both", circle.look(1, 4), 0);
        due("no step", circle.look(0, 3) + circle.look(1, 3), 0);
    }

    private void yearOut() {
        PeerCircle circle = Circles.of(8);
        Checks.rules(circle, "b3;x9");
        circle.weight(0, 8);
        circle.lay();
        Circles.breach(circle, 0, 0);
        circle.year();
        due("below x: a step", circle.look(0, 3), 1);
        circle.weight(0, 9);
        circle.lay();
        Circles.breach(circle, 0, 0);
        circle.year();
        due("at x: out", circle.look(0, 4), 3);
        due("its step", circle.look(0, 3), 0);
        due("its seal", circle.look(0, 2), 0);
        due("count(5)", circle.count(5), 1);
        due("it sells nothing", circle.sell(0, 1), false);
        Checks.rules(circle, "b20");
        for (int left = 2; left >= 0; left--) {
            circle.lay();
            due("it is visited", circle.look(0, 8) >= 2 ? 1 : 0, 1);
            Circles.breach(circle, 0, 0);
            circle.year();
            due("nothing is asked: years out", circle.look(0, 4), left);
            due("nothing is asked: step", circle.look(0, 3), 0);
            due("nothing is asked: seal", circle.look(0, 2), 0);
        }
        due("count(5) then", circle.count(5), 0);
        circle.lay();
        circle.year();
        due("a seal again", circle.look(0, 2), 1);
    }

    private void yearSeals() {
        PeerCircle circle = Circles.of(3);
        Checks.rules(circle, "n2;v1");
        circle.lay();
        circle.year();
        due("two visitors", circle.look(0, 2), 1);
        due("one visitor", circle.look(1, 2), 0);
        due("no visitor", circle.look(2, 2), 0);
        due("seals", circle.count(4), 1);
        circle.lay();
        circle.year();
        due("lost", circle.look(0, 2), 0);
        due("won", circle.look(2, 2), 1);
    }

    private void yearRefused() {
        PeerCircle circle = Circles.of(4);
        due("not laid", circle.year(), NONE);
        due("still year 0", circle.count(1), 0);
        circle.lay();
        due("year 1", circle.year(), 1);
        due("not laid then", circle.count(2), 0);
        due("no visits then", circle.count(3), 0);
        due("twice", circle.year(), NONE);
        due("year stays", circle.count(1), 1);
        // beyond the 512 calls that are promised, but the document names the last year
        circle = new PeerCircle();
        for (int year = 1; year <= 500; year++) {
            circle.lay();
            due("year " + year, circle.year(), year);
        }
        circle.lay();
        due("above 500", circle.year(), NONE);
        due("the last year", circle.count(1), 500);
        due("still laid", circle.count(2), 1);
    }

    private void sealed() {
        PeerCircle circle = new PeerCircle();
        for (int f = 0; f < 6; f++) {
            circle.farm(f, f < 5 ? 2 : 3);
        }
        Checks.rules(circle, "n2;v1;g60");
        circle.lay();
        circle.year();
        due("three of six have a seal", circle.count(4), 3);
        due("three of five are sixty hundredths", circle.sealed(2), 1);
        due("none of one", circle.sealed(3), 0);
        due("no farms", circle.sealed(0), 0);
        Checks.rules(circle, "g61");
        due("61 hundredths", circle.sealed(2), 0);
        Checks.rules(circle, "g0");
        due("none needed", circle.sealed(3), 1);
        due("none needed, but no farms", circle.sealed(1), 0);
        for (int group : new int[] {-1, 4, MOST, LEAST}) {
            due("sealed(" + group + ")", circle.sealed(group), NONE);
        }
        circle = Circles.laid(4);
        Checks.rules(circle, "g100");
        due("before the year", circle.sealed(0), 0);
        circle.year();
        due("all of all", circle.sealed(0), 1);
        circle.farm(7, 0);
        due("all but one", circle.sealed(0), 0);
    }

    private void barred() {
        PeerCircle circle = Circles.of(4);
        circle.farm(1, 3);
        due("itself", circle.barred(2, 2), 1);
        due("kin", circle.barred(1, 4), 1);
        due("kin, the other way", circle.barred(4, 1), 1);
        due("others", circle.barred(0, 1), 0);
        circle.buys(0, 1, true);
        due("who buys from it", circle.barred(0, 1), 1);
        due("whom it buys from", circle.barred(1, 0), 1);
        circle.buys(0, 1, false);
        due("not any more", circle.barred(0, 1) + circle.barred(1, 0), 0);
        Checks.rules(circle, "n1;v1");
        circle.lay();
        int guest = circle.visitor(0, 0);
        due("this year's visitor is not", circle.barred(guest, 0), 0);
        circle.year();
        due("last year's is", circle.barred(guest, 0), 1);
        circle.lay();
        due("it does not come", circle.visitor(0, 0) == guest ? 1 : 0, 0);
        due("still last year's", circle.barred(guest, 0), 1);
        circle.year();
        due("the year before the last is not", circle.barred(guest, 0), 0);
        // only one way
        circle = Circles.of(3);
        Checks.rules(circle, "n2;v1");
        circle.lay();
        circle.year();
        due("2 was at 0", circle.barred(2, 0), 1);
        due("0 was not at 2", circle.barred(0, 2), 0);
    }

    private void look() {
        PeerCircle circle = new PeerCircle();
        circle.farm(5, 3);
        circle.farm(6, 2);
        circle.farm(7, 1);
        Checks.rules(circle, "n2;v1");
        int[] fresh = {5, 3, 0, 0, 0, 0, 0, 0, 0, 0};
        for (int what = 0; what < fresh.length; what++) {
            due("fresh: look(0, " + what + ")", circle.look(0, what), fresh[what]);
        }
        circle.lay();
        due("its visitors", circle.look(0, 8), 2);
        due("its visits", circle.look(0, 9), 1);
        due("visitors of 2", circle.look(2, 8), 0);
        due("visits by 2", circle.look(2, 9), 1);
        int[][] wrong = {{0, -1}, {0, 10}, {0, MOST}, {0, LEAST}, {3, 0}, {-1, 0}, {10, 0}, {MOST, 0}, {LEAST, 0}};
        for (int[] pair : wrong) {
            due("look(" + pair[0] + ", " + pair[1] + ")", circle.look(pair[0], pair[1]), NONE);
        }
        circle.year();
        due("no visitors in a new year", circle.look(0, 8), 0);
        due("no visits in a new year", circle.look(0, 9), 0);
    }

    private void count() {
        PeerCircle circle = Circles.of(4);
        Checks.feed(circle, "n1");
        due("farms", circle.count(0), 4);
        due("bytes", circle.count(6), 20);
        due("visits, not laid", circle.count(3), 0);
        circle.lay();
        due("laid", circle.count(2), 1);
        due("visits", circle.count(3), 12);
        circle.year();
        due("the year", circle.count(1), 1);
        due("seals", circle.count(4), 4);
        due("not laid", circle.count(2), 0);
        due("none out", circle.count(5), 0);
        for (int what : new int[] {-1, 7, 8, 9, 16, 17, 18, 19, 28, 29, MOST, LEAST, LEAST + 10, LEAST + 20}) {
            due("count(" + what + ")", circle.count(what), NONE);
        }
    }
}
