/** Promises 1, 5 and 23: a new object, and what count tells. */
public final class NewObjectTest {
    public static void main(String[] args) {
        aNewObject();
        counts();
        objectsAreApart();
        Check.finish();
    }

    private static void aNewObject() {
        YamRiders post = new YamRiders();
        for (int what = 0; what <= 5; what++) {
            Check.due("count(" + what + ")", post.count(what), 0);
        }
        Check.due("fault()", post.fault(), 0);
        for (int s = 0; s < 12; s++) {
            for (int what = 0; what <= 2; what++) {
                Check.due("at(" + s + ", " + what + ")", post.at(s, what), 0);
            }
            for (int v = 0; v < 12; v++) {
                Check.due("hours(" + s + ", " + v + ")", post.hours(s, v), s == v ? 0 : -1);
                Check.no("snow", post.snow(s, v, 1));
            }
            Check.due("voided", post.voided(0, s), -1);
            Check.due("known", post.known(0, s), -1);
        }
        Check.yes("rider(0, 0) throws", Check.riderThrows(post, 0, 0));
        Check.yes("steed(0, 0) throws", Check.steedThrows(post, 0, 0));
        Check.due("way(0, 0)", post.way(0, 0), -1);
        Check.no("kill(0)", post.kill(0));
        Check.no("cancel(0, 0)", post.cancel(0, 0));
        Check.due("ride(0, 0, 0)", post.ride(0, 0, 0), -1);
    }

    private static void counts() {
        YamRiders post = new YamRiders();
        post.road(0, 1, 1);
        post.horse(0, 50);
        post.horse(3, 50);
        post.tablet(1);
        post.tablet(2);
        post.tablet(3);
        post.ride(0, 0, 1);
        post.ride(1, 0, 1);
        post.ride(2, 5, 5);
        post.feed(1, 2, 3, 4, 5);
        post.end(7);
        int[] wanted = {0, 2, 3, 3, 2, 7};
        for (int what = 0; what < wanted.length; what++) {
            Check.due("count(" + what + ")", post.count(what), wanted[what]);
        }
        post.next();
        Check.due("HOUR", post.count(0), 1);
        Check.due("RIDERS", post.count(3), 3);
        Check.due("one is THERE", post.count(4), 1);
        for (int what : new int[] {-1, 6, Integer.MIN_VALUE, Integer.MAX_VALUE}) {
            Check.due("count(" + what + ")", post.count(what), -1);
        }
    }

    private static void objectsAreApart() {
        YamRiders one = new YamRiders();
        YamRiders other = new YamRiders();
        one.horse(0, 10);
        one.fodder(0, 10);
        one.road(0, 1, 3);
        Check.statutes(one, "tire 9;hunger 50;");
        Check.due("horses", other.count(1), 0);
        Check.due("fodder", other.at(0, 0), 0);
        Check.due("hours", other.hours(0, 1), -1);
        other.horse(0, 10);
        other.next();
        Check.due("hunger", other.steed(0, 0), 9);
    }
}
