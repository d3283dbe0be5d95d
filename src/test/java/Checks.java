import java.nio.charset.StandardCharsets;
import java.util.Arrays;

/** Counts and prints the answers that are not the ones due. */
final class Checks {
    /** A class that is wrong throughout would fill the disk with its lines otherwise. */
    private static final int MOST_LINES = 1000;

    private int asked = 0;
    private int wrong = 0;

    void due(String call, long got, long want) {
        asked++;
        if (got != want) {
            wrong++;
            if (wrong <= MOST_LINES) {
                System.out.println(call + " answered " + got + ", due is " + want);
            }
        }
    }

    void due(String call, boolean got, boolean want) {
        due(call, got ? 1L : 0L, want ? 1L : 0L);
    }

    void end() {
        System.out.println(asked + " answers asked, " + wrong + " wrong");
        if (wrong != 0 || asked == 0) {
            System.exit(1);
        }
    }

    /** Feeds a text, filled up with blanks; answers what the last feed answered. */
    static int feed(PeerCircle circle, String text) {
        int answer = 0;
        byte[] all = text.getBytes(StandardCharsets.ISO_8859_1);
        for (int at = 0; at < all.length || at == 0; at += 20) {
            byte[] twenty = new byte[20];
            Arrays.fill(twenty, (byte) ' ');
            System.arraycopy(all, at, twenty, 0, Math.min(20, all.length - at));
            answer = circle.feed(four(twenty, 0), four(twenty, 4), four(twenty, 8), four(twenty, 12), four(twenty, 16));
        }
        return answer;
    }

    /** Feeds a text and makes it the rules. */
    static int rules(PeerCircle circle, String text) {
        feed(circle, text);
        return circle.rules(text.length());
    }

    private static int four(byte[] from, int at) {
        return (from[at] & 255) << 24 | (from[at + 1] & 255) << 16 | (from[at + 2] & 255) << 8 | from[at + 3] & 255;
    }
}
