/** All that can be asked of a circle without changing it, as a text. */
final class State {
    private State() {
    }

    static String of(PeerCircle circle) {
        StringBuilder all = new StringBuilder();
        for (int what = 0; what <= 27; what++) {
            add(all, "count", what, 0, circle.count(what));
        }
        for (int group = 0; group < 4; group++) {
            add(all, "sealed", group, 0, circle.sealed(group));
        }
        for (int f = 0; f < 10; f++) {
            add(all, "breaches", f, 0, circle.breaches(f));
            add(all, "weighs", f, 0, circle.weighs(f));
            for (int other = 0; other < 10; other++) {
                add(all, "look", f, other, circle.look(f, other));
                add(all, "visitor", f, other, circle.visitor(f, other));
                add(all, "vouches", f, other, circle.vouches(f, other));
                add(all, "trust", f, other, circle.trust(f, other));
                add(all, "barred", f, other, circle.barred(f, other));
            }
        }
        return all.toString();
    }

    private static void add(StringBuilder all, String call, int a, int b, int answer) {
        all.append(call).append('(').append(a).append(", ").append(b).append(") ").append(answer).append('\n');
    }
}
