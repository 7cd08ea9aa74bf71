import java.util.Random;

/** Promises 6, 7, 16 and 21: roads, snow, ways and their hours. */
public final class RoadsTest {
    private static final int[] NO_STATIONS = {-1, 12, Integer.MIN_VALUE, Integer.MAX_VALUE};

    public static void main(String[] args) {
        roadsAreLaid();
        snowFalls();
        waysStay();
        wayEdges();
        againstAllWays();
        Check.finish();
    }

    private static void roadsAreLaid() {
        YamRiders post = new YamRiders();
        Check.yes("road", post.road(11, 0, 24));
        Check.due("both ways alike", post.hours(0, 11), 24);
        Check.due("both ways alike", post.hours(11, 0), 24);
        Check.yes("anew", post.road(0, 11, 1));
        Check.due("hours", post.hours(11, 0), 1);
        Check.no("25", post.road(0, 11, 25));
        Check.no("-1", post.road(0, 11, -1));
        Check.no("the same", post.road(3, 3, 1));
        Check.no("the same, none", post.road(3, 3, 0));
        for (int s : NO_STATIONS) {
            Check.no("road to " + s, post.road(0, s, 1));
            Check.no("road from " + s, post.road(s, 0, 1));
            Check.due("hours to " + s, post.hours(0, s), -1);
            Check.due("hours from " + s, post.hours(s, 0), -1);
            Check.due("hours of " + s, post.hours(s, s), -1);
        }
        Check.due("stays", post.hours(0, 11), 1);
        Check.yes("away", post.road(11, 0, 0));
        Check.due("none", post.hours(0, 11), -1);
        Check.yes("away again", post.road(11, 0, 0));
    }

    private static void snowFalls() {
        YamRiders post = new YamRiders();
        Check.no("no road", post.snow(0, 1, 0));
        post.road(0, 1, 5);
        Check.yes("snow", post.snow(1, 0, 24));
        Check.due("hours", post.hours(0, 1), 29);
        Check.yes("snow is what it is told to be", post.snow(0, 1, 3));
        Check.due("hours", post.hours(0, 1), 8);
        Check.no("25", post.snow(0, 1, 25));
        Check.no("-1", post.snow(0, 1, -1));
        Check.no("the same", post.snow(0, 0, 1));
        for (int s : NO_STATIONS) {
            Check.no("snow to " + s, post.snow(0, s, 1));
            Check.no("snow from " + s, post.snow(s, 0, 1));
        }
        Check.due("stays", post.hours(0, 1), 8);
        Check.yes("road anew", post.road(0, 1, 5));
        Check.due("its snow is 0", post.hours(0, 1), 5);
        post.snow(0, 1, 9);
        post.road(0, 1, 0);
        Check.no("gone", post.snow(0, 1, 1));
        post.road(0, 1, 2);
        Check.due("no old snow", post.hours(0, 1), 2);
    }

    private static void waysStay() {
        YamRiders post = new YamRiders();
        post.road(0, 1, 1);
        post.road(1, 2, 1);
        post.road(0, 2, 3);
        post.tablet(1);
        post.ride(0, 0, 2);
        post.snow(0, 1, 24);
        Check.due("way", post.way(0, 1), 1);
        Check.due("way", post.way(0, 2), 2);
        Check.due("hours now", post.hours(0, 2), 3);
        post.road(1, 2, 0);
        Check.due("way", post.way(0, 2), 2);
    }

    private static void wayEdges() {
        YamRiders post = new YamRiders();
        post.tablet(1);
        for (int s = 0; s < 11; s++) {
            post.road(s, s + 1, 24);
            post.snow(s, s + 1, 24);
        }
        Check.due("the longest", post.hours(0, 11), 11 * 48);
        Check.due("ride", post.ride(0, 11, 0), 0);
        for (int k = 0; k < 12; k++) {
            Check.due("way", post.way(0, k), 11 - k);
        }
        Check.due("way(0, 12)", post.way(0, 12), -1);
        for (int k : NO_STATIONS) {
            Check.due("way(0, " + k + ")", post.way(0, k), -1);
            Check.due("way(" + k + ", 0)", post.way(k, 0), -1);
        }
        Check.due("way(1, 0)", post.way(1, 0), -1);
    }

    private static void againstAllWays() {
        Random random = new Random(3);
        for (int run = 0; run < 400; run++) {
            int stations = 2 + random.nextInt(6);
            int[] names = new int[stations];
            int[][] time = new int[12][12];
            YamRiders post = new YamRiders();
            for (int i = 0; i < stations; i++) {
                names[i] = (i == 0 ? 0 : names[i - 1] + 1) + random.nextInt(i == 0 ? 3 : 2);
                names[i] = Math.min(names[i], 12 - stations + i);
            }
            for (int i = 0; i < stations; i++) {
                for (int j = 0; j < i; j++) {
                    int hours = random.nextInt(4);
                    int snow = hours == 0 ? 0 : random.nextInt(3);
                    Check.yes("road", post.road(names[i], names[j], hours));
                    Check.due("snow", post.snow(names[i], names[j], snow) ? 1 : 0, hours == 0 ? 0 : 1);
                    time[names[i]][names[j]] = hours + snow;
                    time[names[j]][names[i]] = hours + snow;
                }
            }
            compareWays(post, time, names);
        }
    }

    private static void compareWays(YamRiders post, int[][] time, int[] names) {
        post.tablet(2);
        int ridden = 0;
        for (int u : names) {
            for (int v : names) {
                int[] best = {Integer.MAX_VALUE};
                int[][] way = {null};
                walk(time, new int[] {u}, v, 0, best, way);
                Check.due("hours", post.hours(u, v), way[0] == null ? -1 : best[0]);
                int r = post.ride(0, u, v);
                Check.due("ride", r, way[0] == null ? -1 : ridden);
                if (way[0] == null) {
                    continue;
                }
                ridden++;
                for (int k = 0; k <= way[0].length; k++) {
                    Check.due("way", post.way(r, k), k == way[0].length ? -1 : way[0][k]);
                }
                post.kill(r);
            }
        }
    }

    /** Lesser stations are tried first, so the first of like ways is the one that is kept. */
    private static void walk(int[][] time, int[] row, int goal, int spent, int[] best, int[][] way) {
        int here = row[row.length - 1];
        if (here == goal) {
            if (spent < best[0]) {
                best[0] = spent;
                way[0] = row;
            }
            return;
        }
        for (int s = 0; s < 12; s++) {
            boolean seen = false;
            for (int old : row) {
                seen |= old == s;
            }
            if (!seen && time[here][s] > 0) {
                int[] longer = java.util.Arrays.copyOf(row, row.length + 1);
                longer[row.length] = s;
                walk(time, longer, goal, spent + time[here][s], best, way);
            }
        }
    }
}
