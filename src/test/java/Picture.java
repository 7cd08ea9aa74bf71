import java.util.Arrays;

/** All that a post tells of itself at one time. Asking for it changes nothing. */
final class Picture {
    private String[] calls = new String[1024];
    private int[][] numbers = new int[1024][];
    private int[] answers = new int[1024];
    private int length = 0;

    Picture(YamRiders post) {
        tell("fault", post.fault());
        for (int what = 0; what <= 5; what++) {
            tell("count", post.count(what), what);
        }
        for (int s = 0; s < 12; s++) {
            for (int what = 0; what <= 2; what++) {
                tell("at", post.at(s, what), s, what);
            }
            for (int v = 0; v < 12; v++) {
                tell("hours", post.hours(s, v), s, v);
            }
        }
        for (int h = 0; h < post.count(1); h++) {
            tell("steed", post.steed(h, 0), h, 0);
            tell("steed", post.steed(h, 1), h, 1);
        }
        for (int t = 0; t < post.count(2); t++) {
            for (int s = 0; s < 12; s++) {
                tell("voided", post.voided(t, s), t, s);
            }
        }
        for (int r = 0; r < post.count(3); r++) {
            tellRider(post, r);
        }
    }

    private void tellRider(YamRiders post, int r) {
        for (int what = 0; what <= 5; what++) {
            tell("rider", post.rider(r, what), r, what);
        }
        for (int s = 0; s < 12; s++) {
            tell("way", post.way(r, s), r, s);
            tell("known", post.known(r, s), r, s);
        }
    }

    private void tell(String call, int answer, int... with) {
        if (length == answers.length) {
            calls = Arrays.copyOf(calls, 2 * length);
            numbers = Arrays.copyOf(numbers, 2 * length);
            answers = Arrays.copyOf(answers, 2 * length);
        }
        calls[length] = call;
        numbers[length] = with;
        answers[length] = answer;
        length++;
    }

    /** Counts as one answer: the first call in which the two are unlike is printed. */
    static void same(String when, YamRiders one, YamRiders other) {
        sameBut("nothing", when, one, other);
    }

    /** What the named call answers may be unlike. */
    static void sameBut(String free, String when, YamRiders one, YamRiders other) {
        Picture got = new Picture(one);
        Picture want = new Picture(other);
        for (int i = 0; i < Math.min(got.length, want.length); i++) {
            if (!got.calls[i].equals(free) && got.answers[i] != want.answers[i]) {
                Check.due(when + ": " + got.calls[i] + Arrays.toString(got.numbers[i]), got.answers[i],
                        want.answers[i]);
                return;
            }
        }
        Check.due(when + ": how much is told", got.length, want.length);
    }
}
