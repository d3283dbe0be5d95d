import java.util.Random;

/**
 * All promises: long runs of calls by chance (always the same ones), asked of the class and of the Model.
 * All that can be seen is compared again and again (in every tenth run behind each call), so a refused call
 * that changed something shows, too.
 */
public final class ModelTest {
    private static final int[] ODD = {-1, Integer.MIN_VALUE, Integer.MAX_VALUE, 8, 10, 32, 64, 256, -2147483647};

    private final Checks checks = new Checks();
    private final Random random;
    private PeerCircle circle = new PeerCircle();
    private Model model = new Model();
    private String last = "";

    private ModelTest(int seed) {
        random = new Random(seed);
    }

    public static void main(String[] args) {
        ModelTest test = new ModelTest(19);
        for (int run = 0; run < 400; run++) {
            test.run(run);
        }
        test.checks.end();
    }

    private void run(int run) {
        circle = new PeerCircle();
        model = new Model();
        int farmsAtFirst = random.nextInt(11);
        int families = 1 + random.nextInt(8);
        for (int f = 0; f < farmsAtFirst; f++) {
            farm(random.nextInt(families), random.nextInt(4));
        }
        boolean strange = run % 4 == 0;
        for (int call = farmsAtFirst; call < 512; call++) {
            if (strange && random.nextInt(3) == 0) {
                strangeCall();
            } else {
                call();
            }
            if (call % 16 == 0 || run % 10 == 1) {
                compareAll(run, call);
            } else {
                compareCounts(run, call);
            }
        }
        compareAll(run, 512);
    }

    private int some(int bound) {
        return random.nextInt(bound);
    }

    private int odd() {
        return some(3) == 0 ? some(10) : ODD[some(ODD.length)];
    }

    /** Wrong arguments, in every state. */
    private void strangeCall() {
        switch (some(12)) {
            case 0 -> rules(odd());
            case 1 -> farm(odd(), odd());
            case 2 -> buys(odd(), odd(), random.nextBoolean());
            case 3 -> weight(odd(), odd());
            case 4 -> tells(odd(), odd(), odd(), random.nextBoolean());
            case 5 -> sell(odd(), odd());
            default -> ask(odd(), odd());
        }
    }

    private void call() {
        switch (some(20)) {
            case 0 -> feedAndRule(text());
            case 1 -> feedAndRule(wrongText());
            case 2 -> feed(random.nextInt(), random.nextInt(), random.nextInt(), random.nextInt(), random.nextInt());
            case 3 -> rules(some(62));
            case 4 -> farm(some(8), some(4));
            case 5 -> buys(some(10), some(10), random.nextBoolean());
            case 6 -> weight(some(8), 1 + some(9));
            case 7, 8 -> year();
            case 9, 10, 11 -> lay();
            case 12 -> sell(some(10), 1 + some(10000));
            case 13 -> ask(some(10), some(10));
            default -> tellBySome();
        }
    }

    private void tellBySome() {
        int f = some(10);
        int v = circle.visitor(f, some(3));
        tells(v, f, some(8), some(5) > 0);
    }

    private String text() {
        StringBuilder text = new StringBuilder();
        int clauses = 1 + some(5);
        for (int clause = 0; clause < clauses; clause++) {
            text.append(clause == 0 ? "" : ";");
            switch (some(6)) {
                case 0 -> text.append('n').append(1 + some(5));
                case 1 -> text.append('v').append(some(10));
                case 2 -> text.append('w').append(1 + some(6));
                case 3 -> text.append('x').append(1 + some(30));
                case 4 -> text.append('b').append(1 + some(3));
                default -> text.append('g').append(some(101));
            }
        }
        return text.toString();
    }

    private String wrongText() {
        String alphabet = "nvwxbg0123456789;;  N\u00e9\u00ff";
        StringBuilder text = new StringBuilder(text());
        for (int change = 0; change <= some(3); change++) {
            int at = some(text.length() + 1);
            char sign = alphabet.charAt(some(alphabet.length()));
            if (at < text.length() && random.nextBoolean()) {
                text.setCharAt(at, sign);
            } else {
                text.insert(at, sign);
            }
        }
        return text.substring(0, Math.min(60, text.length()));
    }

    private void feedAndRule(String text) {
        StringBuilder filled = new StringBuilder(text);
        while (filled.length() % 20 != 0) {
            filled.append(' ');
        }
        for (int at = 0; at < filled.length(); at += 20) {
            feed(four(filled, at), four(filled, at + 4), four(filled, at + 8), four(filled, at + 12), four(filled, at + 16));
        }
        rules(text.length());
    }

    private static int four(CharSequence text, int at) {
        return text.charAt(at) << 24 | text.charAt(at + 1) << 16 | text.charAt(at + 2) << 8 | text.charAt(at + 3);
    }

    private void due(String call, long got, long want) {
        last = call;
        checks.due(call, got, want);
    }

    private void feed(int a, int b, int c, int d, int e) {
        due("feed", circle.feed(a, b, c, d, e), model.feed(a, b, c, d, e));
    }

    private void rules(int n) {
        due("rules(" + n + ")", circle.rules(n), model.rules(n));
    }

    private void farm(int family, int group) {
        due("farm(" + family + ", " + group + ")", circle.farm(family, group), model.farm(family, group));
    }

    private void buys(int a, int b, boolean is) {
        due("buys(" + a + ", " + b + ", " + is + ")", circle.buys(a, b, is) ? 1 : 0, model.buys(a, b, is) ? 1 : 0);
    }

    private void weight(int point, int n) {
        due("weight(" + point + ", " + n + ")", circle.weight(point, n) ? 1 : 0, model.weight(point, n) ? 1 : 0);
    }

    private void lay() {
        due("lay()", circle.lay(), model.lay());
    }

    private void tells(int v, int f, int point, boolean is) {
        due("tells(" + v + ", " + f + ", " + point + ", " + is + ")",
            circle.tells(v, f, point, is) ? 1 : 0, model.tells(v, f, point, is) ? 1 : 0);
    }

    private void sell(int f, int n) {
        due("sell(" + f + ", " + n + ")", circle.sell(f, n) ? 1 : 0, model.sell(f, n) ? 1 : 0);
    }

    private void year() {
        due("year()", circle.year(), model.year());
    }

    private void ask(int a, int b) {
        String pair = "(" + a + ", " + b + ") behind " + last;
        checks.due("visitor" + pair, circle.visitor(a, b), model.visitor(a, b));
        checks.due("vouches" + pair, circle.vouches(a, b), model.vouches(a, b));
        checks.due("trust" + pair, circle.trust(a, b), model.trust(a, b));
        checks.due("barred" + pair, circle.barred(a, b), model.barred(a, b));
        checks.due("look" + pair, circle.look(a, b), model.look(a, b));
        checks.due("breaches" + pair, circle.breaches(a), model.breaches(a));
        checks.due("weighs" + pair, circle.weighs(a), model.weighs(a));
        checks.due("sealed" + pair, circle.sealed(a), model.sealed(a));
        checks.due("count" + pair, circle.count(a), model.count(a));
    }

    private void compareCounts(int run, int call) {
        for (int what = -1; what <= 28; what++) {
            checks.due("run " + run + ", call " + call + " " + last + ": count(" + what + ")", circle.count(what), model.count(what));
        }
    }

    private void compareAll(int run, int call) {
        compareCounts(run, call);
        for (int a = -1; a <= 10; a++) {
            for (int b = -1; b <= 10; b++) {
                ask(a, b);
            }
        }
    }
}
