/** Promises 11, 12, 13, 15, 19 and 20: riders, void tablets, deaths, and what is known where. */
public final class RidersTest {
    private static final int[] FAR = {-1, 60, Integer.MIN_VALUE, Integer.MAX_VALUE};

    public static void main(String[] args) {
        rides();
        sixtyRiders();
        whatIsToldOfRiders();
        cancels();
        voidsAreCarried();
        aVoidToldAfterOneLeftIsNotCarried();
        stoppedOnes();
        deaths();
        news();
        Check.finish();
    }

    private static YamRiders line() {
        YamRiders post = new YamRiders();
        post.road(0, 1, 2);
        post.road(1, 2, 3);
        for (int rank = 1; rank <= 3; rank++) {
            post.tablet(rank);
        }
        return post;
    }

    private static void rides() {
        YamRiders post = line();
        for (int far : FAR) {
            Check.due("tablet " + far, post.ride(far, 0, 1), -1);
            Check.due("from " + far, post.ride(0, far, 1), -1);
            Check.due("to " + far, post.ride(0, 0, far), -1);
            Check.due("at " + far, post.ride(0, far, far), -1);
        }
        Check.due("tablet 3", post.ride(3, 0, 1), -1);
        Check.due("station 12", post.ride(0, 12, 12), -1);
        Check.due("no way", post.ride(0, 0, 3), -1);
        Check.due("none came", post.count(3), 0);
        Check.due("ride", post.ride(0, 0, 2), 0);
        Check.due("had", post.ride(0, 0, 2), -1);
        Check.due("had, though one would be there at once", post.ride(0, 1, 1), -1);
        Check.due("there at once", post.ride(1, 5, 5), 1);
        Check.dueRider(post, 1, 2, 5, 0, -1, 1, 1);
        Check.due("way", post.way(1, 0), 5);
        Check.due("way", post.way(1, 1), -1);
        Check.due("not had by one who is there", post.ride(1, 0, 1), 2);
    }

    private static void sixtyRiders() {
        YamRiders post = line();
        for (int r = 0; r < 59; r++) {
            Check.due("ride", post.ride(0, 3, 3), r);
        }
        Check.due("the last", post.ride(0, 0, 1), 59);
        Check.due("60 of them", post.ride(1, 0, 1), -1);
        Check.due("count(3)", post.count(3), 60);
        Check.due("count(4)", post.count(4), 1);
    }

    private static void whatIsToldOfRiders() {
        YamRiders post = line();
        post.next();
        post.horse(0, 100);
        post.horse(1, 100);
        post.ride(2, 0, 2);
        Check.dueRider(post, 0, 0, 0, 1, -1, 1, 2);
        post.next();
        Check.dueRider(post, 0, 1, 0, 1, 0, 1, 2);
        Check.due("count(4)", post.count(4), 1);
        post.next();
        Check.dueRider(post, 0, 0, 1, 3, -1, 2, 2);
        post.next();
        Check.dueRider(post, 0, 1, 1, 3, 1, 2, 2);
        Check.hoursGoBy(post, 2);
        Check.dueRider(post, 0, 2, 2, 6, -1, 3, 2);
        Check.due("count(4)", post.count(4), 0);
        for (int what : new int[] {-1, 6, Integer.MIN_VALUE, Integer.MAX_VALUE}) {
            Check.yes("rider(0, " + what + ")", Check.riderThrows(post, 0, what));
        }
        for (int what = 0; what <= 5; what++) {
            Check.yes("rider(1, " + what + ")", Check.riderThrows(post, 1, what));
            Check.yes("rider(-1, " + what + ")", Check.riderThrows(post, -1, what));
        }
        for (int far : FAR) {
            Check.yes("rider(" + far + ", 0)", Check.riderThrows(post, far, 0));
        }
    }

    private static void cancels() {
        YamRiders post = line();
        Check.hoursGoBy(post, 4);
        Check.yes("cancel", post.cancel(0, 11));
        Check.due("since", post.voided(0, 11), 4);
        Check.due("elsewhere", post.voided(0, 10), -1);
        Check.due("another one", post.voided(1, 11), -1);
        post.next();
        Check.no("known", post.cancel(0, 11));
        Check.due("since", post.voided(0, 11), 4);
        Check.yes("told elsewhere, too", post.cancel(0, 10));
        Check.due("since", post.voided(0, 10), 5);
        for (int far : new int[] {-1, 20, Integer.MIN_VALUE, Integer.MAX_VALUE}) {
            Check.no("cancel(" + far + ", 0)", post.cancel(far, 0));
            Check.no("cancel(0, " + far + ")", post.cancel(0, far));
            Check.due("voided(" + far + ", 0)", post.voided(far, 0), -1);
            Check.due("voided(0, " + far + ")", post.voided(0, far), -1);
        }
        Check.no("cancel(3, 0)", post.cancel(3, 0));
        Check.no("cancel(0, 12)", post.cancel(0, 12));
        Check.due("voided(0, 12)", post.voided(0, 12), -1);
    }

    private static void voidsAreCarried() {
        YamRiders post = line();
        post.horse(0, 100);
        post.horse(1, 100);
        post.cancel(1, 0);
        post.cancel(2, 1);
        post.ride(0, 0, 2);
        post.next();
        Check.due("not yet", post.voided(1, 1), -1);
        post.next();
        Check.due("carried", post.voided(1, 1), 2);
        Check.due("as it was", post.voided(2, 1), 0);
        Check.hoursGoBy(post, 2);
        Check.due("not yet", post.voided(1, 2), -1);
        post.next();
        Check.due("carried on", post.voided(1, 2), 5);
        Check.due("what was known there is carried, too", post.voided(2, 2), 5);
        Check.due("not back", post.voided(2, 0), -1);
    }

    private static void aVoidToldAfterOneLeftIsNotCarried() {
        YamRiders post = line();
        post.horse(0, 100);
        post.ride(0, 0, 2);
        post.next();
        post.cancel(0, 0);
        post.cancel(1, 0);
        post.next();
        Check.due("not carried", post.voided(1, 1), -1);
        Check.due("not carried", post.voided(0, 1), -1);
        Check.due("waiting on", post.rider(0, 0), 0);
        YamRiders own = line();
        own.horse(0, 100);
        own.ride(0, 0, 1);
        own.cancel(0, 1);
        Check.hoursGoBy(own, 2);
        Check.due("there, though void is known there", own.rider(0, 0), 2);
    }

    private static void stoppedOnes() {
        YamRiders post = line();
        post.horse(0, 100);
        post.ride(0, 0, 2);
        post.cancel(0, 1);
        Check.hoursGoBy(post, 2);
        Check.due("waiting at 1", post.rider(0, 0), 0);
        post.road(1, 2, 0);
        post.next();
        Check.dueRider(post, 0, 3, 1, 2, -1, 2, 0);
        Check.due("waiting at 1", post.at(1, 2), 0);
        Check.due("count(4)", post.count(4), 0);
        Check.no("kill", post.kill(0));
        Check.due("not had", post.ride(0, 0, 1), 1);
        YamRiders there = line();
        there.cancel(0, 4);
        Check.due("there at once with a void one", there.ride(0, 4, 4), 0);
        there.next();
        Check.due("there", there.rider(0, 0), 2);
    }

    private static void deaths() {
        YamRiders post = line();
        post.horse(0, 100);
        post.cancel(1, 0);
        post.ride(0, 0, 2);
        post.ride(2, 1, 0);
        post.next();
        Check.yes("on a road", post.kill(0));
        Check.dueRider(post, 0, 4, 0, 0, -1, 1, 0);
        Check.no("dead", post.kill(0));
        Check.yes("waiting", post.kill(1));
        Check.dueRider(post, 1, 4, 1, 0, -1, 1, 2);
        Check.due("count(4)", post.count(4), 0);
        Check.due("not had", post.ride(0, 2, 2), 2);
        Check.no("there", post.kill(2));
        Check.dueSteed(post, 0, 99, -1);
        post.next();
        Check.dueSteed(post, 0, 95, 1);
        Check.due("no news", post.known(0, 1), -1);
        Check.due("no void", post.voided(1, 1), -1);
        Check.dueRider(post, 0, 4, 0, 0, -1, 1, 0);
        post.next();
        Check.dueSteed(post, 0, 94, 1);
        for (int far : FAR) {
            Check.no("kill(" + far + ")", post.kill(far));
        }
        Check.no("kill(3)", post.kill(3));
    }

    private static void news() {
        YamRiders post = line();
        post.next();
        post.horse(0, 100);
        post.horse(1, 100);
        post.ride(0, 0, 2);
        Check.due("at the first", post.known(0, 0), 1);
        Check.hoursGoBy(post, 2);
        Check.due("at the second", post.known(0, 1), 3);
        Check.due("not at the third", post.known(0, 2), -1);
        Check.hoursGoBy(post, 3);
        Check.due("at the third", post.known(0, 2), 6);
        Check.due("at the first", post.known(0, 0), 1);
        Check.due("not elsewhere", post.known(0, 3), -1);
        for (int far : FAR) {
            Check.due("known(" + far + ", 0)", post.known(far, 0), -1);
            Check.due("known(0, " + far + ")", post.known(0, far), -1);
        }
        Check.due("known(1, 0)", post.known(1, 0), -1);
        Check.due("known(0, 12)", post.known(0, 12), -1);
    }
}
