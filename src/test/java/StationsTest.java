/** Promises 8, 9, 10, 17 and 18: fodder, horses, tablets, and what is told of horses and stations. */
public final class StationsTest {
    private static final int[] FAR = {-1, 12, 60, Integer.MIN_VALUE, Integer.MAX_VALUE};

    public static void main(String[] args) {
        fodder();
        horses();
        tablets();
        stations();
        Check.finish();
    }

    private static void fodder() {
        YamRiders post = new YamRiders();
        Check.due("1", post.fodder(11, 1), 1);
        for (int i = 1; i <= 9; i++) {
            Check.due("10000", post.fodder(11, 10000), 1 + 10000 * i);
        }
        Check.due("too much", post.fodder(11, 10000), -1);
        Check.due("stays", post.at(11, 0), 90001);
        Check.due("to the brim", post.fodder(11, 9999), 100000);
        Check.due("beyond", post.fodder(11, 1), -1);
        Check.due("0", post.fodder(0, 0), -1);
        Check.due("-1", post.fodder(0, -1), -1);
        Check.due("10001", post.fodder(0, 10001), -1);
        Check.due("most", post.fodder(0, Integer.MAX_VALUE), -1);
        for (int s : FAR) {
            Check.due("at " + s, post.fodder(s, 1), -1);
        }
        Check.due("others", post.at(0, 0), 0);
    }

    private static void horses() {
        YamRiders post = new YamRiders();
        Check.due("101", post.horse(0, 101), -1);
        Check.due("-1", post.horse(0, -1), -1);
        for (int s : FAR) {
            Check.due("at " + s, post.horse(s, 50), -1);
        }
        for (int h = 0; h < 60; h++) {
            Check.due("horse", post.horse(h % 12, h == 0 ? 0 : h == 1 ? 100 : h), h);
        }
        Check.due("60 of them", post.horse(0, 50), -1);
        Check.due("count(1)", post.count(1), 60);
        Check.dueSteed(post, 0, 0, 0);
        Check.dueSteed(post, 1, 100, 1);
        Check.dueSteed(post, 59, 59, 11);
        for (int what : new int[] {-1, 2, Integer.MIN_VALUE, Integer.MAX_VALUE}) {
            Check.yes("steed(0, " + what + ")", Check.steedThrows(post, 0, what));
        }
        for (int h : new int[] {-1, 60, Integer.MIN_VALUE, Integer.MAX_VALUE}) {
            Check.yes("steed(" + h + ", 0)", Check.steedThrows(post, h, 0));
            Check.yes("steed(" + h + ", 1)", Check.steedThrows(post, h, 1));
        }
        YamRiders few = new YamRiders();
        few.horse(0, 1);
        Check.no("steed(0, 1)", Check.steedThrows(few, 0, 1));
        Check.yes("steed(1, 1)", Check.steedThrows(few, 1, 1));
    }

    private static void tablets() {
        YamRiders post = new YamRiders();
        for (int rank : new int[] {0, 4, -1, Integer.MIN_VALUE, Integer.MAX_VALUE}) {
            Check.due("tablet(" + rank + ")", post.tablet(rank), -1);
        }
        for (int t = 0; t < 20; t++) {
            Check.due("tablet", post.tablet(1 + t % 3), t);
        }
        Check.due("20 of them", post.tablet(1), -1);
        Check.due("count(2)", post.count(2), 20);
    }

    private static void stations() {
        YamRiders post = new YamRiders();
        post.road(2, 3, 2);
        post.fodder(2, 7);
        post.horse(2, 50);
        post.horse(2, 40);
        post.horse(3, 40);
        post.tablet(1);
        post.tablet(2);
        post.tablet(3);
        post.ride(0, 2, 3);
        post.ride(1, 2, 3);
        post.ride(2, 2, 2);
        Check.due("fodder", post.at(2, 0), 7);
        Check.due("horses", post.at(2, 1), 2);
        Check.due("waiting, not there", post.at(2, 2), 2);
        Check.due("horses", post.at(3, 1), 1);
        Check.due("waiting", post.at(3, 2), 0);
        post.next();
        Check.due("fodder", post.at(2, 0), 5);
        Check.due("horses on a road", post.at(2, 1), 0);
        Check.due("riders on a road", post.at(2, 2), 0);
        for (int s : FAR) {
            for (int what = 0; what <= 2; what++) {
                Check.due("at(" + s + ", " + what + ")", post.at(s, what), -1);
            }
        }
        for (int what : new int[] {-1, 3, Integer.MIN_VALUE, Integer.MAX_VALUE}) {
            Check.due("at(2, " + what + ")", post.at(2, what), -1);
        }
    }
}
