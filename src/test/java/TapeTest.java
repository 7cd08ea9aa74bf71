/** Promises 2 and 3: feed and end. */
public final class TapeTest {
    public static void main(String[] args) {
        feedHasRoomForTwoHundred();
        endCuts();
        highestByteFirst();
        Check.finish();
    }

    private static void feedHasRoomForTwoHundred() {
        YamRiders post = new YamRiders();
        for (int i = 1; i <= 10; i++) {
            Check.due("feed", post.feed(-1, 0, 1, Integer.MIN_VALUE, Integer.MAX_VALUE), 20 * i);
        }
        Check.due("feed beyond 200", post.feed(0, 0, 0, 0, 0), -1);
        Check.due("count(5)", post.count(5), 200);
        Check.yes("end(181)", post.end(181));
        Check.due("feed to 201", post.feed(0, 0, 0, 0, 0), -1);
        Check.due("none came", post.count(5), 181);
        Check.yes("end(180)", post.end(180));
        Check.due("feed to 200", post.feed(0, 0, 0, 0, 0), 200);
    }

    private static void endCuts() {
        YamRiders post = new YamRiders();
        Check.yes("end(0)", post.end(0));
        Check.no("end(1)", post.end(1));
        Check.no("end(-1)", post.end(-1));
        post.feed(0, 0, 0, 0, 0);
        Check.no("end(21)", post.end(21));
        Check.no("end least", post.end(Integer.MIN_VALUE));
        Check.no("end most", post.end(Integer.MAX_VALUE));
        Check.due("count(5)", post.count(5), 20);
        Check.yes("end(20)", post.end(20));
        Check.yes("end(5)", post.end(5));
        Check.no("end(6)", post.end(6));
        Check.due("feed", post.feed(0, 0, 0, 0, 0), 25);
    }

    /** What is cut off is gone: new bytes come behind what is left. */
    private static void highestByteFirst() {
        YamRiders post = new YamRiders();
        post.feed(0x74697265, 0x20393B58, 0x58585858, 0, 0);
        post.end(7);
        post.feed(0x72657374, 0x20343B00, 0, 0, 0);
        post.end(14);
        Check.due("tire 9;rest 4;", post.statutes(), 2);
        post.fodder(0, 1);
        post.horse(0, 10);
        post.next();
        Check.due("rest", post.steed(0, 0), 14);
    }
}
