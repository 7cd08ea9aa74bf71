/** The sentences of the document's part 2, and of promises 11, 12, 19 and 20, at their bounds. */
public final class KnowingBoundsTest {
    public static void main(String[] args) {
        hadByOneWhoIsWaitingOrOnARoad();
        thereAtOnce();
        noWay();
        theLeastWay();
        ofLikeOnesTheFirst();
        firstWhereTheyAreFirstUnlike();
        asTheyAreWhenOneBegins();
        knownFromTheHourItIsTold();
        knownOnlyOnce();
        knownWhenThatOneLeft();
        carriedWhatWasCarriedThere();
        carriedToWhereItWasKnown();
        toldAheadOfOne();
        newsOfARider();
        newsOfOneWhoNeverComes();
        Check.finish();
    }

    private static YamRiders line(int... hours) {
        YamRiders post = new YamRiders();
        for (int s = 0; s < hours.length; s++) {
            post.road(s, s + 1, hours[s]);
        }
        for (int rank : new int[] {1, 2, 3}) {
            post.tablet(rank);
        }
        return post;
    }

    /** "A TABLET is had by one RIDER at most who is WAITING or on a ROAD": in each of the five states */
    private static void hadByOneWhoIsWaitingOrOnARoad() {
        for (int state = 0; state <= 4; state++) {
            YamRiders post = line(3);
            Check.due("ride", post.ride(0, 0, 1), 0);
            if (state == 1 || state == 2) {
                post.horse(0, 90);
            }
            if (state == 3) {
                post.cancel(0, 0);
            }
            Check.hoursGoBy(post, state == 2 ? 3 : 1);
            if (state == 4) {
                post.kill(0);
            }
            Check.due("state", post.rider(0, 0), state);
            boolean had = state <= 1;
            Check.due("in state " + state, post.ride(0, 1, 0), had ? -1 : 1);
            Check.due("riders", post.count(3), had ? 1 : 2);
            Check.due("under way", post.count(4), 1);
            Check.due("had, all the same", post.ride(0, 1, 0), -1);
            Check.due("another tablet", post.ride(1, 1, 0), had ? 1 : 2);
        }
    }

    /** "for v (which may be u: THERE at once)" */
    private static void thereAtOnce() {
        for (int s = 0; s < 12; s++) {
            YamRiders post = line(3);
            Check.hoursGoBy(post, s);
            Check.due("ride", post.ride(2, s, s), 0);
            Check.dueRider(post, 0, 2, s, s, -1, 1, 2);
            Check.due("way", post.way(0, 0), s);
            Check.due("way", post.way(0, 1), -1);
            Check.due("news", post.known(0, s), s);
            Check.due("under way", post.count(4), 0);
            Check.due("waiting", post.at(s, 2), 0);
            Check.no("kill", post.kill(0));
            Check.due("not had", post.ride(2, s, s), 1);
            post.horse(s, 100);
            post.next();
            Check.dueRider(post, 0, 2, s, s, -1, 1, 2);
        }
    }

    /** "NONE: ... there is no WAY": with a road less, and with it */
    private static void noWay() {
        YamRiders post = line(3, 3, 3);
        post.road(1, 2, 0);
        Check.due("no way", post.ride(0, 0, 3), -1);
        Check.due("no way", post.ride(0, 3, 0), -1);
        Check.due("no way", post.ride(0, 0, 11), -1);
        Check.due("none came", post.count(3), 0);
        post.road(1, 2, 24);
        Check.due("a way", post.ride(0, 3, 0), 0);
    }

    /** "the least HOURS and SNOW together": one hour less, like, and one more than the way over a third */
    private static void theLeastWay() {
        for (int straight = 6; straight <= 8; straight++) {
            for (int third : new int[] {1, 11}) {
                YamRiders post = line();
                post.road(5, third, 3);
                post.road(third, 8, 2);
                post.snow(third, 8, 2);
                post.road(5, 8, straight - 2);
                post.snow(5, 8, 2);
                Check.due("ride", post.ride(0, 5, 8), 0);
                boolean over = straight == 8 || straight == 7 && third == 1;
                Check.due("way", post.way(0, 1), over ? third : 8);
                Check.due("way", post.way(0, 2), over ? 8 : -1);
                Check.due("hours", post.hours(5, 8), Math.min(7, straight));
            }
        }
    }

    /** "of like ones the first (the lesser STATION where they are first unlike)": over each two others */
    private static void ofLikeOnesTheFirst() {
        for (int one = 1; one <= 10; one++) {
            for (int other = one + 1; other <= 10; other++) {
                for (int snow = 0; snow <= 1; snow++) {
                    YamRiders post = line();
                    for (int s : new int[] {other, one}) {
                        post.road(0, s, 4);
                        post.road(s, 11, 4);
                    }
                    post.snow(11, one, snow);
                    Check.due("ride", post.ride(0, 0, 11), 0);
                    Check.due("way", post.way(0, 1), snow == 0 ? one : other);
                    Check.due("back", post.ride(1, 11, 0), 1);
                    Check.due("way back", post.way(1, 1), snow == 0 ? one : other);
                }
            }
        }
    }

    /** The same sentence: what is unlike first is what tells, not the least station, and not how many there are. */
    private static void firstWhereTheyAreFirstUnlike() {
        YamRiders post = line();
        int[][] roads = {{0, 5, 1}, {5, 9, 1}, {9, 11, 2}, {0, 6, 1}, {6, 1, 1}, {1, 11, 2}, {5, 10, 2}, {10, 11, 1},
            {0, 11, 4}, {0, 4, 2}};
        for (int[] road : roads) {
            post.road(road[0], road[1], road[2]);
        }
        post.ride(0, 0, 11);
        dueWay(post, 0, 0, 5, 9, 11);
        post.road(4, 11, 2);
        post.ride(1, 0, 11);
        dueWay(post, 1, 0, 4, 11);
        post.ride(2, 11, 0);
        dueWay(post, 2, 11, 0);
    }

    private static void dueWay(YamRiders post, int r, int... stations) {
        for (int k = 0; k < stations.length; k++) {
            Check.due("way(" + r + ", " + k + ")", post.way(r, k), stations[k]);
        }
        Check.due("its end", post.way(r, stations.length), -1);
    }

    /** "(as they are when one begins)" */
    private static void asTheyAreWhenOneBegins() {
        YamRiders post = line();
        post.road(0, 1, 2);
        post.road(1, 3, 2);
        post.road(0, 2, 2);
        post.road(2, 3, 2);
        post.snow(0, 1, 1);
        post.ride(0, 0, 3);
        post.snow(0, 1, 0);
        post.ride(1, 0, 3);
        post.road(0, 1, 0);
        post.ride(2, 0, 3);
        dueWay(post, 0, 0, 2, 3);
        dueWay(post, 1, 0, 1, 3);
        dueWay(post, 2, 0, 2, 3);
        Check.hoursGoBy(post, 3);
        dueWay(post, 0, 0, 2, 3);
        dueWay(post, 1, 0, 1, 3);
    }

    /** "KNOWN at a STATION from an HOUR on: where it is told" */
    private static void knownFromTheHourItIsTold() {
        for (int hour = 0; hour <= 2; hour++) {
            YamRiders post = line();
            Check.hoursGoBy(post, hour);
            Check.due("not yet", post.voided(1, 7), -1);
            Check.yes("cancel", post.cancel(1, 7));
            Check.due("since", post.voided(1, 7), hour);
            for (int s = 0; s < 12; s++) {
                Check.due("of 0", post.voided(0, s), -1);
                Check.due("of 1", post.voided(1, s), s == 7 ? hour : -1);
                Check.due("of 2", post.voided(2, s), -1);
            }
        }
    }

    /** "false: ... it is KNOWN there", in the same hour and in later ones; not where it is not known */
    private static void knownOnlyOnce() {
        YamRiders post = line();
        Check.yes("told", post.cancel(0, 0));
        Check.no("told twice", post.cancel(0, 0));
        Check.yes("told elsewhere", post.cancel(0, 11));
        post.next();
        Check.no("told again", post.cancel(0, 0));
        Check.yes("of another one", post.cancel(1, 0));
        Check.due("since", post.voided(0, 0), 0);
        Check.due("since", post.voided(1, 0), 1);
    }

    /** "where a RIDER comes from a STATION at which it was KNOWN when that one left": told in each hour */
    private static void knownWhenThatOneLeft() {
        for (int told = 0; told <= 5; told++) {
            YamRiders post = line(3);
            Check.hoursGoBy(post, 1);
            post.ride(0, 0, 1);
            post.next();
            post.horse(0, 90);
            for (int hour = 0; hour <= 5; hour++) {
                if (hour == told) {
                    Check.yes("told", post.cancel(1, 0));
                }
                if (hour < 3) {
                    Check.due("not before the rider comes", post.voided(1, 1), -1);
                }
                post.next();
            }
            Check.due("came", post.rider(0, 2), 5);
            Check.due("told " + told + " hours behind", post.voided(1, 1), told == 0 ? 5 : -1);
            Check.due("as it was", post.voided(1, 0), 2 + told);
        }
        toldWhileOneWaits();
    }

    /** The same sentence: one leaves in HOUR 2; it is told in the hours before, in that one, and behind it. */
    private static void toldWhileOneWaits() {
        for (int told = 0; told <= 3; told++) {
            YamRiders post = line(3);
            post.ride(0, 0, 1);
            for (int hour = 0; hour < 5; hour++) {
                if (hour == 2) {
                    post.horse(0, 90);
                }
                if (hour == told) {
                    post.cancel(1, 0);
                }
                post.next();
            }
            Check.due("came", post.rider(0, 2), 5);
            Check.due("told in " + told, post.voided(1, 1), told <= 2 ? 5 : -1);
        }
    }

    /** The same sentence: brought in an hour, it is carried on by one who leaves in that hour. */
    private static void carriedWhatWasCarriedThere() {
        for (int road : new int[] {2, 3, 4}) {
            YamRiders post = line(3, 4);
            post.road(5, 1, road);
            post.cancel(2, 5);
            post.horse(0, 90);
            post.horse(5, 90);
            post.ride(0, 0, 2);
            post.ride(1, 5, 1);
            Check.hoursGoBy(post, 3 + 4);
            Check.due("came to 2", post.rider(0, 2), 7);
            Check.due("at 1 since", post.voided(2, 1), road);
            Check.due("at 2", post.voided(2, 2), road <= 3 ? 7 : -1);
        }
    }

    /** "from an HOUR on": what is known already stays known since then */
    private static void carriedToWhereItWasKnown() {
        for (int told = 0; told <= 4; told++) {
            YamRiders post = line(3);
            post.horse(0, 90);
            post.ride(0, 0, 1);
            post.cancel(1, 0);
            for (int hour = 0; hour <= 4; hour++) {
                if (hour == told) {
                    Check.due("cancel in " + told, post.cancel(1, 1) ? 1 : 0, told < 3 ? 1 : 0);
                }
                post.next();
            }
            Check.due("since", post.voided(1, 1), Math.min(told, 3));
        }
    }

    /** Told where one comes to while one is on the road: one is stopped there, but THERE if the way ends. */
    private static void toldAheadOfOne() {
        for (int goal = 1; goal <= 2; goal++) {
            YamRiders post = line(2, 2);
            post.horse(0, 90);
            post.ride(0, 0, goal);
            post.next();
            post.cancel(0, 1);
            post.next();
            Check.due("state", post.rider(0, 0), goal == 1 ? 2 : 0);
            post.next();
            Check.due("state", post.rider(0, 0), goal == 1 ? 2 : 3);
            Check.due("not known at 0", post.voided(0, 0), -1);
            Check.due("not known at 2", post.voided(0, 2), -1);
        }
    }

    /** "KNOWN at the STATION where one begins, and at each to which one comes, from that HOUR on" */
    private static void newsOfARider() {
        YamRiders post = line(1, 2, 3);
        for (int s = 0; s < 3; s++) {
            post.horse(s, 100);
        }
        Check.hoursGoBy(post, 2);
        post.ride(0, 0, 3);
        post.ride(1, 7, 7);
        int[] since = {2, 3, 5, 8};
        for (int hour = 2; hour <= 9; hour++) {
            for (int s = 0; s < 12; s++) {
                int want = s < 4 && since[s] <= hour ? since[s] : -1;
                Check.due("in " + hour + " at " + s, post.known(0, s), want);
                Check.due("of the other", post.known(1, s), s == 7 ? 2 : -1);
                Check.due("of none", post.known(2, s), -1);
            }
            post.next();
        }
    }

    /** The same sentence, for riders who die, are stopped, or go on waiting. */
    private static void newsOfOneWhoNeverComes() {
        YamRiders post = line(2, 2);
        post.horse(0, 100);
        post.ride(0, 0, 2);
        post.ride(1, 0, 2);
        post.cancel(1, 0);
        post.ride(2, 1, 0);
        post.next();
        post.kill(0);
        Check.hoursGoBy(post, 4);
        for (int r = 0; r < 2; r++) {
            Check.due("where one began", post.known(r, 0), 0);
            Check.due("nowhere else", post.known(r, 1), -1);
            Check.due("nowhere else", post.known(r, 2), -1);
        }
        Check.due("rider 2 took the horse that came", post.rider(2, 0), 2);
        Check.due("and came", post.known(2, 0), 4);
    }
}
