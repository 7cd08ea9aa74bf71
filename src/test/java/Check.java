import java.nio.charset.StandardCharsets;
import java.util.NoSuchElementException;

/** What the tests share: counting wrong answers, and calls that take more than one line. */
final class Check {
    private static int asked = 0;
    private static int wrong = 0;

    private Check() {
    }

    static void due(String call, long got, long want) {
        asked++;
        if (got != want) {
            wrong++;
            if (wrong <= 50) {
                System.out.println(call + " answered " + got + ", due is " + want);
            }
        }
    }

    static void yes(String call, boolean got) {
        due(call, got ? 1 : 0, 1);
    }

    static void no(String call, boolean got) {
        due(call, got ? 1 : 0, 0);
    }

    static void finish() {
        System.out.println(asked + " answers, " + wrong + " not as due");
        if (wrong != 0 || asked == 0) {
            System.exit(1);
        }
    }

    /** The tape is to be empty before. */
    static void feedBytes(YamRiders post, byte[] bytes) {
        byte[] padded = java.util.Arrays.copyOf(bytes, (bytes.length + 19) / 20 * 20);
        java.nio.ByteBuffer numbers = java.nio.ByteBuffer.wrap(padded);
        int fed = 0;
        while (numbers.remaining() > 0) {
            fed += 20;
            due("feed", post.feed(numbers.getInt(), numbers.getInt(), numbers.getInt(), numbers.getInt(),
                    numbers.getInt()), fed);
        }
        yes("end", post.end(bytes.length));
    }

    static int statutes(YamRiders post, String text) {
        feedBytes(post, text.getBytes(StandardCharsets.ISO_8859_1));
        return post.statutes();
    }

    static int leading(YamRiders post, int... wants) {
        byte[] bytes = new byte[wants.length];
        for (int i = 0; i < wants.length; i++) {
            bytes[i] = (byte) wants[i];
        }
        feedBytes(post, bytes);
        return post.leading();
    }

    static boolean riderThrows(YamRiders post, int r, int what) {
        try {
            post.rider(r, what);
            return false;
        } catch (NoSuchElementException e) {
            return true;
        }
    }

    static boolean steedThrows(YamRiders post, int h, int what) {
        try {
            post.steed(h, what);
            return false;
        } catch (NoSuchElementException e) {
            return true;
        }
    }

    static void hoursGoBy(YamRiders post, int hours) {
        for (int i = 0; i < hours; i++) {
            int now = post.count(0);
            due("next", post.next(), now + 1);
        }
    }

    static void dueRider(YamRiders post, int r, int... wanted) {
        for (int what = 0; what < wanted.length; what++) {
            due("rider(" + r + ", " + what + ")", post.rider(r, what), wanted[what]);
        }
    }

    static void dueSteed(YamRiders post, int h, int strength, int station) {
        due("steed(" + h + ", 0)", post.steed(h, 0), strength);
        due("steed(" + h + ", 1)", post.steed(h, 1), station);
    }
}
