/** Promise 14: what an hour does. */
public final class HourTest {
    public static void main(String[] args) {
        horsesEatByNumber();
        strengthHasBounds();
        horsesEatBeforeRidersLeave();
        ranksGoFirst();
        thenTheHourOneCame();
        thenTheNumber();
        theStrongestHorse();
        keepsAreKept();
        strengthSuffices();
        snowAsItIsNow();
        roadsThatAreGone();
        tireAsItIsNow();
        theTimeIsThatOfLeaving();
        comersRestNextHour();
        theLastHour();
        Check.finish();
    }

    private static void horsesEatByNumber() {
        YamRiders post = new YamRiders();
        post.horse(0, 50);
        post.horse(1, 50);
        post.horse(0, 50);
        post.horse(0, 50);
        post.fodder(0, 2);
        Check.due("next", post.next(), 1);
        Check.dueSteed(post, 0, 53, 0);
        Check.dueSteed(post, 1, 49, 1);
        Check.dueSteed(post, 2, 53, 0);
        Check.dueSteed(post, 3, 49, 0);
        Check.due("eaten", post.at(0, 0), 0);
    }

    private static void strengthHasBounds() {
        YamRiders post = new YamRiders();
        post.horse(0, 98);
        post.horse(1, 30);
        post.fodder(0, 10);
        Check.statutes(post, "rest 50;hunger 50;");
        post.next();
        Check.dueSteed(post, 0, 100, 0);
        Check.dueSteed(post, 1, 0, 1);
        post.next();
        Check.dueSteed(post, 0, 100, 0);
        Check.dueSteed(post, 1, 0, 1);
        Check.due("the strong eat, too", post.at(0, 0), 8);
    }

    private static YamRiders oneRoad(int hours) {
        YamRiders post = new YamRiders();
        post.road(0, 1, hours);
        for (int rank : new int[] {3, 2, 1, 1}) {
            post.tablet(rank);
        }
        return post;
    }

    private static void horsesEatBeforeRidersLeave() {
        YamRiders fed = oneRoad(4);
        fed.horse(0, 5);
        fed.fodder(0, 1);
        fed.ride(0, 0, 1);
        fed.next();
        Check.due("fed", fed.rider(0, 0), 1);
        YamRiders hungry = oneRoad(4);
        hungry.horse(0, 8);
        hungry.ride(0, 0, 1);
        hungry.next();
        Check.due("hungry", hungry.rider(0, 0), 0);
    }

    private static void ranksGoFirst() {
        YamRiders post = oneRoad(4);
        post.ride(0, 0, 1);
        post.next();
        post.ride(1, 0, 1);
        post.next();
        post.ride(2, 0, 1);
        post.horse(0, 50);
        post.next();
        Check.due("rank 3", post.rider(0, 0), 0);
        Check.due("rank 2", post.rider(1, 0), 0);
        Check.due("rank 1", post.rider(2, 0), 1);
        post.horse(0, 50);
        post.next();
        Check.due("rank 3", post.rider(0, 0), 0);
        Check.due("rank 2", post.rider(1, 0), 1);
    }

    private static void thenTheHourOneCame() {
        YamRiders post = oneRoad(2);
        post.road(1, 3, 1);
        post.horse(0, 90);
        post.ride(2, 0, 3);
        post.next();
        post.ride(3, 1, 3);
        post.next();
        Check.dueRider(post, 0, 0, 1, 2);
        Check.dueRider(post, 1, 0, 1, 1);
        Check.due("no horse but the comer's", post.at(1, 1), 1);
        post.next();
        Check.due("came in 2", post.rider(0, 0), 0);
        Check.due("came in 1", post.rider(1, 0), 2);
    }

    private static void thenTheNumber() {
        YamRiders post = oneRoad(2);
        post.ride(3, 0, 1);
        post.ride(2, 0, 1);
        post.horse(0, 50);
        post.next();
        Check.due("the lesser number", post.rider(0, 0), 1);
        Check.due("the greater", post.rider(1, 0), 0);
    }

    private static void theStrongestHorse() {
        YamRiders post = oneRoad(2);
        post.horse(0, 40);
        post.horse(1, 99);
        post.horse(0, 60);
        post.horse(0, 60);
        post.ride(0, 0, 1);
        post.ride(1, 0, 1);
        post.ride(2, 0, 1);
        post.next();
        Check.due("first", post.rider(2, 3), 2);
        Check.due("then", post.rider(1, 3), 3);
        Check.due("last", post.rider(0, 3), 0);
    }

    private static void keepsAreKept() {
        YamRiders post = oneRoad(2);
        Check.due("statutes", Check.statutes(post, "keep 3 2;keep 2 1;"), 2);
        post.ride(0, 0, 1);
        post.ride(1, 0, 1);
        post.horse(0, 80);
        post.next();
        Check.due("rank 3 keeps 2", post.rider(0, 0), 0);
        Check.due("rank 2 keeps 1", post.rider(1, 0), 0);
        post.horse(0, 80);
        post.next();
        Check.due("rank 3 keeps 2", post.rider(0, 0), 0);
        Check.due("rank 2 keeps 1", post.rider(1, 0), 1);
        post.horse(0, 80);
        post.next();
        Check.due("2 are there", post.rider(0, 0), 0);
        post.ride(2, 0, 1);
        post.horse(0, 80);
        post.next();
        Check.due("the higher rank took one of 3", post.rider(0, 0), 0);
        Check.due("rank 1 keeps none", post.rider(2, 0), 1);
        post.horse(0, 80);
        post.next();
        Check.due("3 are there", post.rider(0, 0), 1);
    }

    private static void strengthSuffices() {
        YamRiders post = oneRoad(5);
        Check.statutes(post, "tire 3;hunger 0;");
        post.horse(0, 14);
        post.ride(0, 0, 1);
        post.next();
        Check.due("14 are too few", post.rider(0, 0), 0);
        post.horse(0, 15);
        post.next();
        Check.due("15 are enough", post.rider(0, 0), 1);
        Check.due("its horse", post.rider(0, 3), 1);
        Check.dueSteed(post, 1, 15, -1);
        Check.hoursGoBy(post, 4);
        Check.dueSteed(post, 1, 0, 1);
    }

    private static void snowAsItIsNow() {
        YamRiders post = oneRoad(5);
        Check.statutes(post, "tire 2;hunger 0;");
        post.horse(0, 12);
        post.ride(0, 0, 1);
        post.snow(0, 1, 2);
        post.next();
        Check.due("14 wanted", post.rider(0, 0), 0);
        post.snow(0, 1, 1);
        post.next();
        Check.due("12 wanted", post.rider(0, 0), 1);
        Check.hoursGoBy(post, 4);
        Check.due("on the road", post.rider(0, 0), 1);
        post.next();
        Check.dueRider(post, 0, 2, 1, 7);
        Check.dueSteed(post, 0, 0, 1);
    }

    private static void roadsThatAreGone() {
        YamRiders post = oneRoad(3);
        post.road(0, 2, 1);
        post.road(2, 1, 1);
        post.road(0, 2, 0);
        post.horse(0, 90);
        post.ride(0, 0, 1);
        post.road(0, 1, 0);
        post.road(0, 2, 1);
        post.next();
        Check.due("waiting, though there is another way", post.rider(0, 0), 0);
        post.road(0, 1, 4);
        post.next();
        Check.due("left", post.rider(0, 0), 1);
        post.road(0, 1, 0);
        Check.hoursGoBy(post, 3);
        Check.dueRider(post, 0, 2, 1, 5);
    }

    private static void tireAsItIsNow() {
        YamRiders post = oneRoad(4);
        post.horse(0, 41);
        post.horse(0, 40);
        post.ride(0, 0, 1);
        post.ride(1, 0, 1);
        post.next();
        Check.dueSteed(post, 0, 40, -1);
        Check.dueSteed(post, 1, 39, -1);
        Check.statutes(post, "tire 9;");
        Check.hoursGoBy(post, 2);
        Check.dueSteed(post, 0, 40, -1);
        post.next();
        Check.dueSteed(post, 0, 4, 1);
        Check.dueSteed(post, 1, 3, 1);
        YamRiders weak = oneRoad(4);
        weak.horse(0, 20);
        weak.ride(0, 0, 1);
        weak.next();
        Check.statutes(weak, "tire 9;");
        Check.hoursGoBy(weak, 3);
        Check.dueSteed(weak, 0, 0, 1);
    }

    private static void theTimeIsThatOfLeaving() {
        YamRiders post = oneRoad(2);
        post.horse(0, 100);
        post.ride(0, 0, 1);
        post.next();
        post.snow(0, 1, 20);
        post.next();
        Check.dueRider(post, 0, 2, 1, 2);
        Check.dueSteed(post, 0, 95, 1);
    }

    private static void comersRestNextHour() {
        YamRiders post = oneRoad(1);
        post.road(1, 2, 1);
        post.fodder(1, 10);
        post.horse(0, 50);
        post.ride(0, 0, 2);
        post.next();
        Check.dueRider(post, 0, 0, 1, 1, -1, 2, 0);
        Check.dueSteed(post, 0, 47, 1);
        Check.due("nothing eaten yet", post.at(1, 0), 10);
        post.next();
        Check.dueRider(post, 0, 2, 2, 2, -1, 3, 0);
        Check.dueSteed(post, 0, 48, 2);
        Check.due("eaten", post.at(1, 0), 9);
    }

    private static void theLastHour() {
        YamRiders post = new YamRiders();
        post.horse(0, 50);
        for (int i = 1; i <= 9999; i++) {
            Check.due("next", post.next(), i);
        }
        post.fodder(0, 5);
        Check.due("next", post.next(), -1);
        Check.due("HOUR", post.count(0), 9999);
        Check.due("nothing eaten", post.at(0, 0), 5);
    }
}
