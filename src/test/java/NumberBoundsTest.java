import java.util.function.IntPredicate;

/**
 * How far numbers go, in parts 1 and 2 of the document and in promises 1, 6 to 10, 15 to 18, 21 and 23: the first
 * and the last are taken and do what they should, the ones beside them are not. RefusedTest shows that refused
 * ones change nothing.
 */
public final class NumberBoundsTest {
    public static void main(String[] args) {
        stations();
        hoursOfARoad();
        noRoadAtZero();
        roadsBetweenUnlikeOnes();
        snowOfARoad();
        roadsAnewHaveNoSnow();
        strengthOfAHorse();
        sixtyHorses();
        fodderAtOnce();
        fodderInAll();
        ranks();
        twentyTablets();
        sixtyRiders();
        whatOfRiders();
        stationsOfAWay();
        leastHours();
        theSameStationIsZeroHours();
        counts();
        Check.finish();
    }

    /** Asks one step inside and outside of each bound, and far outside. */
    private static void range(String name, int first, int last, IntPredicate taken) {
        for (int number : new int[] {first, Math.min(first + 1, last), Math.max(last - 1, first), last}) {
            Check.yes(name + " " + number, taken.test(number));
        }
        for (int number : new int[] {first - 1, last + 1, first - 256, last + 256, first + 65536,
            Integer.MIN_VALUE, Integer.MIN_VALUE + last, Integer.MAX_VALUE}) {
            Check.no(name + " " + number, taken.test(number));
        }
    }

    /** "STATIONS 0 .. 11", in every call that takes one */
    private static void stations() {
        range("road from", 0, 11, s -> new YamRiders().road(s, s == 5 ? 6 : 5, 1));
        range("road to", 0, 11, s -> new YamRiders().road(s == 5 ? 6 : 5, s, 1));
        range("snow from", 0, 11, s -> star().snow(s, s == 5 ? 6 : 5, 1));
        range("snow to", 0, 11, s -> star().snow(s == 5 ? 6 : 5, s, 1));
        range("fodder", 0, 11, s -> new YamRiders().fodder(s, 1) == 1);
        range("horse", 0, 11, s -> new YamRiders().horse(s, 1) == 0);
        range("ride from", 0, 11, s -> star().ride(0, s, 5) == 0);
        range("ride to", 0, 11, s -> star().ride(0, 5, s) == 0);
        range("ride at", 0, 11, s -> star().ride(0, s, s) == 0);
        range("cancel", 0, 11, s -> star().cancel(0, s));
        range("at", 0, 11, s -> new YamRiders().at(s, 0) == 0);
        range("voided", 0, 11, s -> {
            YamRiders post = star();
            post.cancel(0, s);
            return post.voided(0, s) == 0;
        });
        range("known", 0, 11, s -> {
            YamRiders post = star();
            post.ride(0, Math.floorMod(s, 12), Math.floorMod(s, 12));
            return post.known(0, s) == 0;
        });
        range("hours from", 0, 11, s -> star().hours(s, 5) >= 0);
        range("hours to", 0, 11, s -> star().hours(5, s) >= 0);
        for (int s = 0; s < 12; s++) {
            YamRiders post = new YamRiders();
            Check.due("horse", post.horse(s, 50), 0);
            Check.due("fodder", post.fodder(s, 7), 7);
            for (int other = 0; other < 12; other++) {
                Check.due("horses", post.at(other, 1), other == s ? 1 : 0);
                Check.due("fodder", post.at(other, 0), other == s ? 7 : 0);
            }
        }
    }

    private static YamRiders star() {
        YamRiders post = new YamRiders();
        for (int s = 0; s < 12; s++) {
            post.road(5, s, 1);
        }
        post.tablet(1);
        return post;
    }

    /** "takes HOURS (1 to 24), both ways alike" */
    private static void hoursOfARoad() {
        range("hours", 1, 24, hours -> {
            YamRiders post = new YamRiders();
            return post.road(0, 11, hours) && post.hours(0, 11) == hours && post.hours(11, 0) == hours;
        });
    }

    /** "(0: there is none)": it is taken, whether there was one or not */
    private static void noRoadAtZero() {
        YamRiders post = new YamRiders();
        Check.yes("none as before", post.road(0, 1, 0));
        Check.due("hours", post.hours(0, 1), -1);
        Check.no("no snow", post.snow(0, 1, 0));
        Check.yes("one", post.road(0, 1, 1));
        Check.due("hours", post.hours(1, 0), 1);
        Check.yes("none any more", post.road(1, 0, 0));
        Check.due("hours", post.hours(0, 1), -1);
        Check.due("hours", post.hours(1, 0), -1);
    }

    /** "between two STATIONS (unlike)" */
    private static void roadsBetweenUnlikeOnes() {
        for (int u = 0; u < 12; u++) {
            for (int v = 0; v < 12; v++) {
                YamRiders post = new YamRiders();
                Check.due("road(" + u + ", " + v + ", 3)", post.road(u, v, 3) ? 1 : 0, u == v ? 0 : 1);
                Check.due("road(" + u + ", " + v + ", 0)", post.road(u, v, 0) ? 1 : 0, u == v ? 0 : 1);
            }
        }
    }

    /** "SNOW (0 to 24) more" */
    private static void snowOfARoad() {
        for (int hours : new int[] {1, 24}) {
            range("snow", 0, 24, more -> {
                YamRiders post = new YamRiders();
                post.road(3, 4, hours);
                return post.snow(4, 3, more) && post.hours(3, 4) == hours + more
                        && post.hours(4, 3) == hours + more;
            });
        }
    }

    /** "its SNOW is 0 then", though the road takes as many hours as before */
    private static void roadsAnewHaveNoSnow() {
        for (int hours : new int[] {1, 7, 24}) {
            YamRiders post = new YamRiders();
            post.road(0, 1, 7);
            post.snow(0, 1, 24);
            Check.yes("anew", post.road(1, 0, hours));
            Check.due("hours", post.hours(0, 1), hours);
            post.snow(0, 1, 24);
            Check.no("refused", post.road(0, 1, 25));
            Check.due("snow stays", post.hours(0, 1), hours + 24);
        }
    }

    /** "STRENGTH 0 to 100" */
    private static void strengthOfAHorse() {
        range("strength", 0, 100, strength -> {
            YamRiders post = new YamRiders();
            return post.horse(11, strength) == 0 && post.steed(0, 0) == strength && post.steed(0, 1) == 11;
        });
    }

    /** "HORSES 0 .. 59", "NONE: there are 60": no such one is told of ahead of its being made */
    private static void sixtyHorses() {
        YamRiders post = new YamRiders();
        for (int h = 0; h < 60; h++) {
            Check.due("how many", post.count(1), h);
            Check.yes("not yet", Check.steedThrows(post, h, 0));
            Check.due("refused ones take no number", post.horse(0, 101), -1);
            Check.due("horse", post.horse(h % 12, 100 - h), h);
            Check.dueSteed(post, h, 100 - h, h % 12);
            Check.yes("another what", Check.steedThrows(post, h, -1));
            Check.yes("another what", Check.steedThrows(post, h, 2));
        }
        Check.due("the 61st", post.horse(0, 50), -1);
        Check.yes("none", Check.steedThrows(post, 60, 0));
        Check.due("how many", post.count(1), 60);
        for (int s = 0; s < 12; s++) {
            Check.due("five at each", post.at(s, 1), 5);
        }
    }

    /** "n (1 to 10000) more" */
    private static void fodderAtOnce() {
        range("fodder", 1, 10000, n -> {
            YamRiders post = new YamRiders();
            return post.fodder(0, n) == n && post.at(0, 0) == n;
        });
    }

    /** "FODDER (0 to 100000)", "NONE: ... it would have too much" */
    private static void fodderInAll() {
        for (int more : new int[] {1, 2, 5000, 9999, 10000}) {
            YamRiders post = new YamRiders();
            for (int i = 1; i <= 9; i++) {
                Check.due("fodder", post.fodder(4, 10000), 10000 * i);
            }
            if (more < 10000) {
                Check.due("up to what lacks", post.fodder(4, 10000 - more), 100000 - more);
                Check.due("one too much", post.fodder(4, more + 1), -1);
            }
            Check.due("as it was", post.at(4, 0), 100000 - more);
            Check.due("full", post.fodder(4, more), 100000);
            Check.due("one more", post.fodder(4, 1), -1);
            Check.due("still full", post.at(4, 0), 100000);
            post.horse(4, 50);
            post.next();
            Check.due("one is eaten", post.at(4, 0), 99999);
            Check.due("two are too much", post.fodder(4, 2), -1);
            Check.due("one again", post.fodder(4, 1), 100000);
            Check.due("another station", post.fodder(5, 1), 1);
        }
    }

    /** "a RANK 1 to 3" */
    private static void ranks() {
        range("rank", 1, 3, rank -> new YamRiders().tablet(rank) == 0);
    }

    /** "TABLETS 0 .. 19", "NONE: there are 20" */
    private static void twentyTablets() {
        YamRiders post = new YamRiders();
        for (int t = 0; t < 20; t++) {
            Check.due("how many", post.count(2), t);
            Check.due("not yet", post.ride(t, 0, 0), -1);
            Check.no("not yet", post.cancel(t, 0));
            Check.due("not yet", post.voided(t, 0), -1);
            Check.due("refused ones take no number", post.tablet(4), -1);
            Check.due("tablet", post.tablet(1 + t % 3), t);
            Check.due("ride", post.ride(t, 0, 0), t);
            Check.yes("cancel", post.cancel(t, 0));
            Check.due("voided", post.voided(t, 0), 0);
        }
        for (int rank = 1; rank <= 3; rank++) {
            Check.due("the 21st", post.tablet(rank), -1);
        }
        Check.due("none", post.ride(20, 0, 0), -1);
        Check.no("none", post.cancel(20, 0));
        Check.due("none", post.voided(20, 0), -1);
        Check.due("how many", post.count(2), 20);
    }

    /** "RIDERS 0 .. 59", "NONE: there are 60", whatever has become of them */
    private static void sixtyRiders() {
        YamRiders post = new YamRiders();
        post.road(0, 1, 1);
        post.tablet(1);
        post.tablet(2);
        for (int r = 0; r < 60; r++) {
            Check.due("how many", post.count(3), r);
            Check.yes("not yet", Check.riderThrows(post, r, 0));
            Check.due("not yet", post.way(r, 0), -1);
            Check.due("not yet", post.known(r, 0), -1);
            Check.no("not yet", post.kill(r));
            Check.due("refused ones take no number", post.ride(0, 0, 2), -1);
            Check.due("ride", post.ride(0, 0, r % 2), r);
            Check.due("way", post.way(r, 0), 0);
            Check.due("known", post.known(r, 0), 0);
            Check.due("count(4)", post.count(4), r % 2);
            Check.due("kill", post.kill(r) ? 1 : 0, r % 2);
        }
        Check.due("the 61st", post.ride(0, 0, 1), -1);
        Check.due("the 61st", post.ride(1, 0, 0), -1);
        Check.yes("none", Check.riderThrows(post, 60, 0));
        Check.due("how many", post.count(3), 60);
        Check.due("under way", post.count(4), 0);
    }

    /** "NoSuchElementException: no such one, or another what": what 0 to 5 */
    private static void whatOfRiders() {
        YamRiders post = star();
        post.ride(0, 0, 3);
        range("rider(0, what)", 0, 5, what -> !Check.riderThrows(post, 0, what));
        range("rider(r, 0)", 0, 0, r -> !Check.riderThrows(post, r, 0));
        post.horse(0, 9);
        range("steed(0, what)", 0, 1, what -> !Check.steedThrows(post, 0, what));
        range("steed(h, 1)", 0, 0, h -> !Check.steedThrows(post, h, 1));
        range("at(0, what)", 0, 2, what -> post.at(0, what) != -1);
    }

    /** "STATION k of RIDER r's WAY; NONE: no such ones": of the shortest way and of the longest */
    private static void stationsOfAWay() {
        YamRiders post = new YamRiders();
        post.tablet(1);
        post.tablet(1);
        post.tablet(1);
        for (int s = 0; s < 11; s++) {
            post.road(s, s + 1, 1);
        }
        post.ride(0, 4, 4);
        post.ride(1, 4, 3);
        post.ride(2, 0, 11);
        range("way(0, k)", 0, 0, k -> post.way(0, k) == 4);
        range("way(1, k)", 0, 1, k -> post.way(1, k) == 4 - k);
        range("way(2, k)", 0, 11, k -> post.way(2, k) == k && k >= 0);
    }

    /** "The least HOURS and SNOW from u to v now": of two ways the lesser, from either side of like ones */
    private static void leastHours() {
        for (int straight = 1; straight <= 24; straight++) {
            for (int snow = 0; snow <= 24; snow += 6) {
                YamRiders post = new YamRiders();
                post.road(0, 1, 6);
                post.road(1, 2, 6);
                post.snow(1, 2, 2);
                post.road(0, 2, straight);
                post.snow(0, 2, snow);
                Check.due("hours", post.hours(0, 2), Math.min(14, straight + snow));
                Check.due("hours", post.hours(2, 0), Math.min(14, straight + snow));
                post.road(0, 1, 0);
                Check.due("hours now", post.hours(2, 0), straight + snow);
            }
        }
        YamRiders post = new YamRiders();
        for (int s = 0; s < 11; s++) {
            post.road(s, s + 1, 24);
            post.snow(s, s + 1, 24);
        }
        Check.due("the longest of all", post.hours(0, 11), 528);
        post.road(5, 6, 0);
        Check.due("no way", post.hours(0, 11), -1);
        Check.due("a way", post.hours(6, 11), 240);
    }

    /** "(0: the same)", with roads and without */
    private static void theSameStationIsZeroHours() {
        YamRiders alone = new YamRiders();
        YamRiders among = star();
        for (int s = 0; s < 12; s++) {
            Check.due("hours", alone.hours(s, s), 0);
            Check.due("hours", among.hours(s, s), 0);
        }
    }

    /** "NONE for another what" */
    private static void counts() {
        YamRiders post = new YamRiders();
        range("count", 0, 5, what -> post.count(what) == 0);
    }
}
