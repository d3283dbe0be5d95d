/** Circles that many tests begin with. */
final class Circles {
    private Circles() {
    }

    /** Farms of families 0, 1, 2 .. in group 0: of up to eight none are kin; 8 is kin of 0, and 9 of 1. */
    static PeerCircle of(int farms) {
        PeerCircle circle = new PeerCircle();
        for (int f = 0; f < farms; f++) {
            circle.farm(f % 8, 0);
        }
        return circle;
    }

    static PeerCircle laid(int farms) {
        PeerCircle circle = of(farms);
        circle.lay();
        return circle;
    }

    /** The first two visitors of a farm tell a point as broken. */
    static void breach(PeerCircle circle, int f, int point) {
        circle.tells(circle.visitor(f, 0), f, point, true);
        circle.tells(circle.visitor(f, 1), f, point, true);
    }

    static int layAndYear(PeerCircle circle) {
        circle.lay();
        return circle.year();
    }

    /** Ten farms in a line, each of which can be visited only by the one before it and the one behind it. */
    static PeerCircle line() {
        PeerCircle circle = of(10);
        for (int f = 0; f < 10; f++) {
            for (int v = 0; v < f - 1; v++) {
                circle.buys(v, f, true);
            }
        }
        return circle;
    }

    /** Farm 0 and nine that are kin of one another: only farm 0 can visit these, and only these can visit farm 0. */
    static PeerCircle oneAndNineKin() {
        PeerCircle circle = new PeerCircle();
        circle.farm(0, 0);
        for (int f = 1; f < 10; f++) {
            circle.farm(1, 0);
        }
        return circle;
    }

    /**
     * Nine farms in year 2, not laid: farm 0 is out, farm 1 has a step and doubtful baskets, 2 sold this year,
     * 3 buys from 4; twenty bytes are on the tape. Something of each kind that a refused call could spoil.
     */
    static PeerCircle resting() {
        PeerCircle circle = of(9);
        circle.weight(0, 9);
        circle.weight(1, 3);
        circle.buys(3, 4, true);
        layAndYear(circle);
        circle.sell(1, 50);
        circle.lay();
        breach(circle, 0, 0);
        breach(circle, 1, 1);
        circle.year();
        circle.sell(2, 70);
        Checks.feed(circle, "n2;v1");
        return circle;
    }

    /** The same, laid, with a breach told by two and a point told by one. */
    static PeerCircle busy() {
        PeerCircle circle = resting();
        circle.lay();
        breach(circle, 2, 5);
        circle.tells(circle.visitor(3, 0), 3, 6, true);
        return circle;
    }
}
