import java.util.NoSuchElementException;
import java.util.function.Consumer;

/** Two posts with one past: a refused call on one of them leaves it like the other one, now and later on. */
final class Twins {
    interface Call {
        long on(YamRiders post);
    }

    /** What a call that throws NoSuchElementException answers here. */
    static final long THROWN = Long.MIN_VALUE;

    private static final int HOURS_LATER = 16;

    private Twins() {
    }

    static long bit(boolean answer) {
        return answer ? 1 : 0;
    }

    static Call throwing(Call call) {
        return post -> {
            try {
                return call.on(post);
            } catch (NoSuchElementException e) {
                return THROWN;
            }
        };
    }

    static void refused(String name, Call call, long want) {
        refused(name, post -> { }, call, want);
    }

    /** A refused call that changes nothing at all. */
    static void refused(String name, Consumer<YamRiders> before, Call call, long want) {
        refusedBut(name, before, call, want, post -> { });
    }

    /** A refused call that changes what the other call changes, and nothing else. */
    static void refusedBut(String name, Consumer<YamRiders> before, Call call, long want,
            Consumer<YamRiders> instead) {
        for (int later = 0; later < 3; later++) {
            YamRiders one = rich();
            YamRiders other = rich();
            before.accept(one);
            before.accept(other);
            Check.due(name, call.on(one), want);
            instead.accept(other);
            Picture.same(name + ", at once", one, other);
            goOn(later, name + ", later", one, other);
        }
    }

    /** The statutes, the tape, and hours and snow of each road show in what comes of them alone. */
    private static void goOn(int later, String when, YamRiders one, YamRiders other) {
        if (later == 1) {
            Check.due(when + ": statutes", one.statutes(), other.statutes());
        } else if (later == 2) {
            for (int u = 0; u < 12; u++) {
                for (int v = 0; v < 12; v++) {
                    Check.due(when + ": snow", bit(one.snow(u, v, 1)), bit(other.snow(u, v, 1)));
                }
            }
            Check.due(when + ": horse", one.horse(6, 100), other.horse(6, 100));
            Check.due(when + ": tablet", one.tablet(2), other.tablet(2));
            Check.due(when + ": ride", one.ride(2, 0, 3), other.ride(2, 0, 3));
        }
        Picture.same(when, one, other);
        for (int hour = 0; hour < HOURS_LATER; hour++) {
            Check.due(when + ": next", one.next(), other.next());
            Picture.same(when, one, other);
        }
    }

    /**
     * Something of everything: statutes, a fault, a text on the tape, snow, stations with horses and without,
     * a full one, and riders in every state: 0 and 1 on roads, 2 WAITING, 3 THERE, 4 STOPPED, 5 DEAD where it
     * waited, 6 DEAD on a road, its horse still under way. HOUR is 2.
     */
    static YamRiders rich() {
        YamRiders post = new YamRiders();
        layRoads(post);
        Check.due("rules", Check.statutes(post, "tire 2;rest 5;hunger 2;keep 2 1;keep 3 2;"), 5);
        Check.due("fault", Check.statutes(post, "rest 51;"), -6);
        int[][] horses = {{0, 90}, {0, 80}, {1, 50}, {2, 10}, {5, 100}, {11, 100}, {8, 0}, {4, 60}, {0, 88}};
        for (int[] horse : horses) {
            post.horse(horse[0], horse[1]);
        }
        for (int rank : new int[] {1, 2, 3, 1, 2, 3, 1}) {
            post.tablet(rank);
        }
        post.ride(0, 0, 3);
        post.ride(3, 11, 10);
        post.ride(1, 6, 5);
        post.ride(2, 9, 9);
        post.ride(4, 1, 0);
        post.ride(5, 8, 7);
        post.ride(6, 0, 4);
        post.cancel(4, 1);
        Check.hoursGoBy(post, 1);
        post.cancel(2, 0);
        post.cancel(2, 11);
        post.kill(5);
        post.kill(6);
        Check.hoursGoBy(post, 1);
        Check.feedBytes(post, "tire 3;rest 7;hunger 4;keep 1 2;".getBytes());
        int[] states = {1, 1, 0, 2, 3, 4, 4};
        for (int r = 0; r < states.length; r++) {
            Check.due("state of " + r, post.rider(r, 0), states[r]);
        }
        return post;
    }

    private static void layRoads(YamRiders post) {
        int[][] roads = {{0, 1, 3, 0}, {1, 2, 4, 2}, {2, 3, 5, 0}, {0, 4, 10, 3}, {11, 10, 24, 24}, {5, 6, 1, 0},
            {7, 8, 2, 0}};
        for (int[] road : roads) {
            post.road(road[0], road[1], road[2]);
            post.snow(road[0], road[1], road[3]);
        }
        post.fodder(0, 50);
        post.fodder(1, 3);
        for (int i = 0; i < 10; i++) {
            post.fodder(9, 10000);
        }
    }
}
