import java.util.Arrays;
import java.util.Random;

/** Promise 22: the least pains of leading. */
public final class LeadingTest {
    private static final int FAR = 1000000;

    public static void main(String[] args) {
        tapesThatAreNotAsTold();
        horsesOnRoadsDoNotCount();
        nothingMoves();
        turningBack();
        manyHorses();
        againstAllAssignments();
        againstAnotherSolver();
        Check.finish();
    }

    private static int[] wants(int... pairs) {
        int[] wants = new int[12];
        for (int i = 0; i < pairs.length; i += 2) {
            wants[pairs[i]] = pairs[i + 1];
        }
        return wants;
    }

    private static void tapesThatAreNotAsTold() {
        YamRiders post = new YamRiders();
        Check.due("empty", post.leading(), -1);
        Check.due("11 bytes", Check.leading(post, new int[11]), -1);
        Check.due("13 bytes", Check.leading(post, new int[13]), -1);
        Check.due("empty then", post.count(5), 0);
        Check.due("61", Check.leading(post, wants(11, 61)), -1);
        Check.due("255", Check.leading(post, wants(0, 255)), -1);
        Check.due("empty then", post.count(5), 0);
        Check.due("60, and no horses", Check.leading(post, wants(11, 60)), -2);
        Check.due("61 beside too many", Check.leading(post, wants(0, 60, 11, 61)), -1);
        Check.due("none", Check.leading(post, new int[12]), 0);
        Check.due("empty then", post.count(5), 0);
        int[] all = new int[12];
        Arrays.fill(all, 60);
        Check.due("far too many", Check.leading(post, all), -2);
    }

    private static void horsesOnRoadsDoNotCount() {
        YamRiders post = new YamRiders();
        post.road(0, 1, 2);
        post.horse(0, 50);
        post.tablet(1);
        post.ride(0, 0, 1);
        Check.due("at 0", Check.leading(post, wants(1, 1)), 2);
        post.next();
        Check.due("on the road", Check.leading(post, wants(1, 1)), -2);
        Check.due("on the road", Check.leading(post, wants(0, 1)), -2);
        post.next();
        Check.due("at 1", Check.leading(post, wants(1, 1)), 0);
        Check.due("strength is no matter", Check.leading(post, wants(0, 1)), 2);
    }

    private static void nothingMoves() {
        YamRiders post = new YamRiders();
        post.road(0, 1, 3);
        post.horse(0, 5);
        post.fodder(0, 3);
        Check.statutes(post, "tire x");
        Check.due("leading", Check.leading(post, wants(1, 1)), 3);
        Check.dueSteed(post, 0, 5, 0);
        Check.due("fodder", post.at(0, 0), 3);
        Check.due("HOUR", post.count(0), 0);
        Check.due("fault", post.fault(), 2);
    }

    /** The nearest horse for one station is the only good one for another. */
    private static void turningBack() {
        YamRiders post = new YamRiders();
        post.road(0, 1, 1);
        post.road(1, 2, 2);
        post.road(0, 3, 10);
        post.horse(0, 5);
        post.horse(2, 5);
        Check.due("1 and 3", Check.leading(post, wants(1, 1, 3, 1)), 12);
        Check.due("1 and 0 and 3", Check.leading(post, wants(1, 1, 0, 1)), 2);
        post.snow(0, 3, 5);
        Check.due("in snow", Check.leading(post, wants(1, 1, 3, 1)), 17);
    }

    private static void manyHorses() {
        YamRiders post = new YamRiders();
        for (int s = 0; s < 11; s++) {
            post.road(s, s + 1, 24);
            post.snow(s, s + 1, 24);
        }
        for (int h = 0; h < 60; h++) {
            post.horse(0, 5);
        }
        Check.due("all to the end", Check.leading(post, wants(11, 60)), 60 * 11 * 48);
        Check.due("one more", Check.leading(post, wants(11, 60, 0, 1)), -2);
        Check.due("five each", Check.leading(post, 5, 5, 5, 5, 5, 5, 5, 5, 5, 5, 5, 5), 5 * 66 * 48);
    }

    private static int[][] randomRoads(YamRiders post, Random random, int density) {
        int[][] least = new int[12][12];
        for (int u = 0; u < 12; u++) {
            Arrays.fill(least[u], FAR);
            least[u][u] = 0;
        }
        for (int u = 0; u < 12; u++) {
            for (int v = 0; v < u; v++) {
                if (random.nextInt(12) < density) {
                    int hours = 1 + random.nextInt(24);
                    int snow = random.nextInt(25);
                    post.road(u, v, hours);
                    post.snow(u, v, snow);
                    least[u][v] = hours + snow;
                    least[v][u] = hours + snow;
                }
            }
        }
        for (int k = 0; k < 12; k++) {
            for (int u = 0; u < 12; u++) {
                for (int v = 0; v < 12; v++) {
                    least[u][v] = Math.min(least[u][v], least[u][k] + least[k][v]);
                }
            }
        }
        return least;
    }

    private static void againstAllAssignments() {
        Random random = new Random(11);
        for (int run = 0; run < 300; run++) {
            YamRiders post = new YamRiders();
            int[][] least = randomRoads(post, random, 1 + random.nextInt(6));
            int[] stands = new int[random.nextInt(7)];
            for (int h = 0; h < stands.length; h++) {
                stands[h] = random.nextInt(12);
                post.horse(stands[h], 50);
            }
            for (int ask = 0; ask < 5; ask++) {
                int[] wants = new int[12];
                int wanted = random.nextInt(stands.length + 2);
                for (int i = 0; i < wanted; i++) {
                    wants[random.nextInt(12)]++;
                }
                int want = assign(least, stands, 0, wants, wanted);
                Check.due("leading", Check.leading(post, wants), want >= FAR ? -2 : want);
            }
        }
    }

    /** The least pains of the horses from number h on, each led to a station that wants one, or to none. */
    private static int assign(int[][] least, int[] stands, int h, int[] wants, int wanted) {
        if (wanted == 0) {
            return 0;
        }
        if (h == stands.length) {
            return FAR;
        }
        int best = assign(least, stands, h + 1, wants, wanted);
        for (int s = 0; s < 12; s++) {
            if (wants[s] > 0 && least[stands[h]][s] < FAR) {
                wants[s]--;
                best = Math.min(best, least[stands[h]][s] + assign(least, stands, h + 1, wants, wanted - 1));
                wants[s]++;
            }
        }
        return best;
    }

    private static void againstAnotherSolver() {
        Random random = new Random(13);
        for (int run = 0; run < 300; run++) {
            YamRiders post = new YamRiders();
            int[][] least = randomRoads(post, random, 1 + random.nextInt(6));
            int[] stands = new int[20 + random.nextInt(41)];
            int near = 1 + random.nextInt(12);
            for (int h = 0; h < stands.length; h++) {
                stands[h] = random.nextInt(near);
                post.horse(stands[h], 50);
            }
            for (int ask = 0; ask < 5; ask++) {
                int[] wants = new int[12];
                int wanted = random.nextInt(4) == 0 ? stands.length : random.nextInt(stands.length + 1);
                for (int i = 0; i < wanted; i++) {
                    wants[random.nextInt(12)]++;
                }
                int want = hungarian(least, stands, wants, wanted);
                Check.due("leading", Check.leading(post, wants), want >= FAR ? -2 : want);
            }
        }
    }

    /** Rows are wanted horses, columns the horses that stand; potentials as the Hungarian method has them. */
    private static int hungarian(int[][] least, int[] stands, int[] wants, int wanted) {
        int[] rows = new int[wanted + 1];
        int filled = 0;
        for (int s = 0; s < 12; s++) {
            for (int i = 0; i < wants[s]; i++) {
                filled++;
                rows[filled] = s;
            }
        }
        int columns = stands.length;
        long[] byRow = new long[wanted + 1];
        long[] byColumn = new long[columns + 1];
        int[] match = new int[columns + 1];
        for (int row = 1; row <= wanted; row++) {
            long[] slack = new long[columns + 1];
            int[] back = new int[columns + 1];
            boolean[] used = new boolean[columns + 1];
            Arrays.fill(slack, Long.MAX_VALUE);
            match[0] = row;
            int column = 0;
            do {
                used[column] = true;
                long delta = Long.MAX_VALUE;
                int chosen = 0;
                for (int c = 1; c <= columns; c++) {
                    if (used[c]) {
                        continue;
                    }
                    int cost = Math.min(FAR, least[stands[c - 1]][rows[match[column]]]);
                    long reduced = cost - byRow[match[column]] - byColumn[c];
                    if (reduced < slack[c]) {
                        slack[c] = reduced;
                        back[c] = column;
                    }
                    if (slack[c] < delta) {
                        delta = slack[c];
                        chosen = c;
                    }
                }
                for (int c = 0; c <= columns; c++) {
                    if (used[c]) {
                        byRow[match[c]] += delta;
                        byColumn[c] -= delta;
                    } else if (c > 0) {
                        slack[c] -= delta;
                    }
                }
                column = chosen;
            } while (match[column] != 0);
            while (column != 0) {
                match[column] = match[back[column]];
                column = back[column];
            }
        }
        long total = 0;
        for (int c = 1; c <= columns; c++) {
            if (match[c] != 0) {
                total += Math.min(FAR, least[stands[c - 1]][rows[match[c]]]);
            }
        }
        return (int) Math.min(total, FAR);
    }
}
