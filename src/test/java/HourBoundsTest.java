/** The sentences of the document's part 3 (an hour), and of promises 13 and 14, at their bounds. */
public final class HourBoundsTest {
    public static void main(String[] args) {
        ifThereIsFodder();
        fodderGoesByNumber();
        hundredAtMost();
        zeroAtLeast();
        horsesOnRoadsNeitherEatNorHunger();
        byRankThenByHourThenByNumber();
        stoppedWhereItIsKnown();
        theStrongestOfLikeOnesTheLeastNumber();
        moreThanKeep();
        eachWhoLeavesTakesOneOfThem();
        strengthAtLeast();
        onlyTheStrongestIsLookedAt();
        hoursAndSnowAsTheyAreNow();
        goesOnWaitingWithoutTheRoad();
        comesInHourHPlusT();
        tireTimesThatTimeLess();
        waitingOrThereIfTheWayEnds();
        oneWhoWaitsDiesThere();
        theHorseComesAlone();
        theLastHourIs9999();
        Check.finish();
    }

    private static YamRiders road(int hours, int snow, int... ranks) {
        YamRiders post = new YamRiders();
        post.road(0, 1, hours);
        post.snow(0, 1, snow);
        for (int rank : ranks) {
            post.tablet(rank);
        }
        return post;
    }

    /** "if there is FODDER, one of it is eaten ...; else": with 0, 1 and 2 of it */
    private static void ifThereIsFodder() {
        for (int fodder = 0; fodder <= 2; fodder++) {
            YamRiders post = new YamRiders();
            if (fodder > 0) {
                post.fodder(0, fodder);
            }
            post.fodder(1, 9);
            post.horse(0, 50);
            post.next();
            Check.dueSteed(post, 0, fodder > 0 ? 53 : 49, 0);
            Check.due("left", post.at(0, 0), Math.max(0, fodder - 1));
            post.next();
            Check.dueSteed(post, 0, fodder == 0 ? 48 : fodder == 1 ? 52 : 56, 0);
            Check.due("left", post.at(0, 0), 0);
            Check.due("elsewhere", post.at(1, 0), 9);
        }
    }

    /** "HORSES at STATIONS, by number": with one less than there are horses, as many, and one more */
    private static void fodderGoesByNumber() {
        for (int fodder = 1; fodder <= 4; fodder++) {
            YamRiders post = new YamRiders();
            post.fodder(7, fodder);
            for (int strength : new int[] {10, 90, 50}) {
                post.horse(7, strength);
            }
            post.next();
            Check.dueSteed(post, 0, 13, 7);
            Check.dueSteed(post, 1, fodder >= 2 ? 93 : 89, 7);
            Check.dueSteed(post, 2, fodder >= 3 ? 53 : 49, 7);
            Check.due("left", post.at(7, 0), Math.max(0, fodder - 3));
        }
    }

    /** "STRENGTH is rest more (100 at most)" */
    private static void hundredAtMost() {
        for (int rest : new int[] {0, 1, 3, 50}) {
            for (int strength = 45; strength <= 100; strength++) {
                YamRiders post = new YamRiders();
                Check.statutes(post, "rest " + rest + ";");
                post.fodder(0, 1);
                post.horse(0, strength);
                post.next();
                Check.dueSteed(post, 0, Math.min(100, strength + rest), 0);
                Check.due("eaten, though it is strong", post.at(0, 0), 0);
            }
        }
    }

    /** "STRENGTH is hunger less (0 at least)" */
    private static void zeroAtLeast() {
        for (int hunger : new int[] {0, 1, 7, 50}) {
            for (int strength = 0; strength <= 55; strength++) {
                YamRiders post = new YamRiders();
                Check.statutes(post, "hunger " + hunger + ";");
                post.horse(0, strength);
                post.next();
                Check.dueSteed(post, 0, Math.max(0, strength - hunger), 0);
            }
        }
    }

    /** "HORSES at STATIONS": the hour in which one leaves is the last it eats in until it has come */
    private static void horsesOnRoadsNeitherEatNorHunger() {
        for (int fodder : new int[] {0, 100}) {
            YamRiders post = road(4, 0, 1);
            if (fodder > 0) {
                post.fodder(0, fodder);
                post.fodder(1, fodder);
            }
            post.horse(0, 50);
            post.ride(0, 0, 1);
            int left = fodder > 0 ? 53 : 49;
            for (int hour = 1; hour <= 3; hour++) {
                post.next();
                Check.dueSteed(post, 0, left, -1);
            }
            post.next();
            Check.dueSteed(post, 0, left - 8, 1);
            Check.due("one eaten at 0", post.at(0, 0), Math.max(0, fodder - 1));
            Check.due("none eaten at 1", post.at(1, 0), fodder);
            post.next();
            Check.dueSteed(post, 0, left - 8 + (fodder > 0 ? 3 : -1), 1);
        }
    }

    /** "at each by RANK, then by the HOUR in which they came, then by number": all orders of two riders */
    private static void byRankThenByHourThenByNumber() {
        for (int rank0 = 1; rank0 <= 3; rank0++) {
            for (int rank1 = 1; rank1 <= 3; rank1++) {
                for (int between = 0; between <= 1; between++) {
                    YamRiders post = road(5, 0, rank0, rank1);
                    post.ride(0, 0, 1);
                    Check.hoursGoBy(post, between);
                    post.ride(1, 0, 1);
                    post.horse(0, 50);
                    post.next();
                    boolean first = rank0 <= rank1;
                    Check.due("the first rider", post.rider(0, 0), first ? 1 : 0);
                    Check.due("the second", post.rider(1, 0), first ? 0 : 1);
                }
            }
        }
        cameEarlierThoughOfGreaterNumber();
    }

    /** Rider 0 comes from 0 in HOUR 2; rider 1 begins at 1 in the HOUR before, the same one, or the next. */
    private static void cameEarlierThoughOfGreaterNumber() {
        for (int begins = 1; begins <= 3; begins++) {
            YamRiders post = road(2, 0, 2, 2);
            post.road(1, 2, 9);
            Check.statutes(post, "keep 2 1;");
            post.horse(0, 100);
            post.horse(0, 90);
            post.ride(0, 0, 2);
            for (int hour = 0; hour < begins; hour++) {
                post.next();
            }
            Check.due("begins", post.ride(1, 1, 2), 1);
            while (post.count(0) < 3) {
                post.next();
            }
            Check.dueRider(post, 0, 0, 1, 2);
            Check.dueRider(post, 1, 0, 1, begins);
            post.horse(1, 80);
            post.next();
            Check.due("rider 0", post.rider(0, 0), begins >= 2 ? 1 : 0);
            Check.due("rider 1", post.rider(1, 0), begins >= 2 ? 0 : 1);
        }
    }

    /** "one whose TABLET is KNOWN as VOID there is STOPPED; else": ahead of horse and road */
    private static void stoppedWhereItIsKnown() {
        for (int kind = 0; kind < 6; kind++) {
            YamRiders post = road(3, 0, 1, 1);
            if (kind != 1) {
                post.horse(0, 60);
            }
            post.ride(0, 0, 1);
            if (kind == 2) {
                post.road(0, 1, 0);
            }
            boolean stopped = kind <= 2;
            if (kind <= 2) {
                Check.yes("known here", post.cancel(0, 0));
            } else if (kind == 3) {
                post.cancel(0, 1);
            } else if (kind == 4) {
                post.cancel(1, 0);
            }
            Check.due("not ahead of the hour", post.rider(0, 0), 0);
            post.next();
            Check.due("kind " + kind, post.rider(0, 0), stopped ? 3 : 1);
            Check.due("under way", post.count(4), stopped ? 0 : 1);
            Check.due("waiting", post.at(0, 2), 0);
            Check.due("horses", post.at(0, 1), stopped && kind != 1 ? 1 : 0);
        }
    }

    /** "the strongest HORSE there, of like ones the least number": one more, as strong, one less */
    private static void theStrongestOfLikeOnesTheLeastNumber() {
        for (int second = 49; second <= 51; second++) {
            for (int third = 49; third <= 51; third++) {
                YamRiders post = road(3, 0, 1);
                post.horse(1, 100);
                post.horse(0, 50);
                post.horse(0, second);
                post.horse(0, third);
                post.ride(0, 0, 1);
                post.next();
                int strongest = Math.max(50, Math.max(second, third));
                Check.due("horse", post.rider(0, 3), strongest == 50 ? 1 : second == strongest ? 2 : 3);
            }
        }
    }

    /** "if more than keep tells for the RANK are there": one less, as many, one more; for each rank */
    private static void moreThanKeep() {
        for (int rank = 1; rank <= 3; rank++) {
            for (int keep : new int[] {0, 1, 2, 19, 20}) {
                for (int horses = Math.max(0, keep - 1); horses <= keep + 1; horses++) {
                    YamRiders post = road(3, 0, rank);
                    Check.due("keep", Check.statutes(post, "keep " + rank + " " + keep + ";"), 1);
                    for (int h = 0; h < horses; h++) {
                        post.horse(0, h == 0 ? 50 : 0);
                    }
                    post.horse(1, 50);
                    post.ride(0, 0, 1);
                    post.next();
                    Check.due(horses + " with keep " + keep, post.rider(0, 0), horses > keep ? 1 : 0);
                }
            }
        }
    }

    /** The same sentence, for one behind another: what is there then counts, not what was there before. */
    private static void eachWhoLeavesTakesOneOfThem() {
        for (int horses = 2; horses <= 5; horses++) {
            YamRiders post = road(3, 0, 2, 2, 1);
            Check.due("keep", Check.statutes(post, "keep 2 2;"), 1);
            for (int h = 0; h < horses; h++) {
                post.horse(0, 50);
            }
            for (int t = 0; t < 3; t++) {
                post.ride(t, 0, 1);
            }
            post.next();
            Check.due("of rank 1", post.rider(2, 0), 1);
            Check.due("the first of rank 2", post.rider(0, 0), horses >= 4 ? 1 : 0);
            Check.due("the second of rank 2", post.rider(1, 0), horses >= 5 ? 1 : 0);
        }
    }

    /** "if its STRENGTH is tire times the HOURS and SNOW ... at least": one less, as much, one more */
    private static void strengthAtLeast() {
        int[][] roads = {{1, 0}, {5, 0}, {5, 3}, {24, 0}, {24, 24}};
        for (int tire : new int[] {1, 2, 9}) {
            for (int[] told : roads) {
                int need = tire * (told[0] + told[1]);
                for (int strength = need - 1; strength <= need + 1; strength++) {
                    if (strength > 100) {
                        continue;
                    }
                    YamRiders post = road(told[0], told[1], 1);
                    Check.due("tire", Check.statutes(post, "tire " + tire + ";hunger 0;"), 2);
                    post.horse(0, strength);
                    post.ride(0, 0, 1);
                    post.next();
                    boolean left = post.steed(0, 1) != 0;
                    Check.due(strength + " for " + need, left ? 1 : 0, strength >= need ? 1 : 0);
                }
            }
        }
    }

    /** The same sentence: the strength is that behind what was eaten in this hour. */
    private static void onlyTheStrongestIsLookedAt() {
        YamRiders post = road(10, 0, 1);
        post.horse(0, 16);
        post.horse(0, 18);
        post.fodder(0, 3);
        post.ride(0, 0, 1);
        post.next();
        Check.due("21 and 19: the stronger", post.rider(0, 3), 1);
        Check.dueSteed(post, 1, 21, -1);
        YamRiders hungry = road(10, 0, 1);
        hungry.horse(0, 20);
        hungry.ride(0, 0, 1);
        hungry.next();
        Check.due("19 by now", hungry.rider(0, 0), 0);
    }

    /** "HOURS and SNOW (as they are now)": not as they were when one began */
    private static void hoursAndSnowAsTheyAreNow() {
        for (int now = 4; now <= 6; now++) {
            YamRiders post = road(5, 0, 1);
            Check.statutes(post, "hunger 0;");
            post.horse(0, 10);
            post.ride(0, 0, 1);
            post.road(0, 1, now == 4 ? 4 : 5);
            post.snow(0, 1, now == 6 ? 1 : 0);
            post.next();
            Check.due(now + " hours with 10", post.rider(0, 0), now <= 5 ? 1 : 0);
        }
    }

    /** "(if there is none such ROAD any more, one goes on WAITING)": until there is one again */
    private static void goesOnWaitingWithoutTheRoad() {
        YamRiders post = road(5, 0, 1);
        post.road(0, 2, 9);
        post.road(2, 1, 9);
        post.horse(0, 100);
        post.ride(0, 0, 1);
        post.road(1, 0, 0);
        for (int hour = 1; hour <= 3; hour++) {
            post.next();
            Check.dueRider(post, 0, 0, 0, 0, -1, 1, 0);
            Check.due("the horse stays", post.steed(0, 1), 0);
            Check.due("the way stays", post.way(0, 1), 1);
        }
        post.road(1, 0, 2);
        post.next();
        Check.due("left", post.rider(0, 0), 1);
        post.next();
        Check.dueRider(post, 0, 2, 1, 5);
    }

    /** "One who leaves in HOUR h by a ROAD of t HOURS and SNOW comes in HOUR h + t." */
    private static void comesInHourHPlusT() {
        int[][] roads = {{1, 0}, {1, 1}, {2, 0}, {24, 0}, {1, 24}, {24, 23}, {24, 24}};
        for (int[] told : roads) {
            for (int leaves = 0; leaves <= 2; leaves++) {
                int time = told[0] + told[1];
                YamRiders post = road(told[0], told[1], 1);
                Check.hoursGoBy(post, leaves);
                post.horse(0, 100);
                post.ride(0, 0, 1);
                for (int hour = leaves + 1; hour < leaves + time; hour++) {
                    Check.due("next", post.next(), hour);
                    Check.dueRider(post, 0, 1, 0, leaves, 0, 1);
                    Check.due("not yet there", post.steed(0, 1), -1);
                    post.road(0, 1, 0);
                }
                Check.due("next", post.next(), leaves + time);
                Check.dueRider(post, 0, 2, 1, leaves + time, -1, 2);
                Check.due("there", post.steed(0, 1), 1);
                Check.due("its news", post.known(0, 1), leaves + time);
            }
        }
    }

    /** "STRENGTH is tire times that time less (tire as it is now; 0 at least)" */
    private static void tireTimesThatTimeLess() {
        for (int tire = 1; tire <= 9; tire++) {
            for (int strength = 15; strength <= 30; strength++) {
                YamRiders post = road(3, 0, 1);
                Check.statutes(post, "tire 5;hunger 0;");
                post.horse(0, strength);
                post.ride(0, 0, 1);
                post.next();
                post.snow(0, 1, 20);
                Check.statutes(post, "tire " + tire + ";hunger 50;");
                post.next();
                Check.dueSteed(post, 0, strength, -1);
                post.next();
                Check.dueSteed(post, 0, Math.max(0, strength - 3 * tire), 1);
            }
        }
    }

    /** "WAITING there, or THERE, if the WAY ends": ways of two stations and of three */
    private static void waitingOrThereIfTheWayEnds() {
        for (int goal = 1; goal <= 2; goal++) {
            YamRiders post = road(1, 0, 1);
            post.road(1, 2, 1);
            post.horse(0, 100);
            post.ride(0, 0, goal);
            post.next();
            Check.dueRider(post, 0, goal == 1 ? 2 : 0, 1, 1, -1, 2, 0);
            Check.due("waiting", post.at(1, 2), goal - 1);
            Check.due("under way", post.count(4), goal - 1);
            post.next();
            Check.dueRider(post, 0, 2, goal, goal, -1, goal + 1, 0);
            Check.due("waiting", post.at(1, 2), 0);
        }
    }

    /** "a RIDER who is WAITING dies there" */
    private static void oneWhoWaitsDiesThere() {
        YamRiders post = road(2, 0, 1, 1);
        post.horse(0, 100);
        post.ride(0, 0, 1);
        Check.yes("kill", post.kill(0));
        Check.dueRider(post, 0, 4, 0, 0, -1, 1, 0);
        Check.due("waiting", post.at(0, 2), 0);
        Check.hoursGoBy(post, 3);
        Check.dueRider(post, 0, 4, 0, 0, -1, 1, 0);
        Check.dueSteed(post, 0, 97, 0);
        Check.due("not had any more", post.ride(0, 0, 1), 1);
        Check.no("not twice", post.kill(0));
        Check.yes("the next one", post.kill(1));
    }

    /** "one on a ROAD, too, and the HORSE comes alone when the time is over": killed in each hour of the road */
    private static void theHorseComesAlone() {
        for (int killed = 1; killed <= 4; killed++) {
            YamRiders post = road(4, 0, 1, 2, 3);
            post.cancel(2, 0);
            post.horse(0, 50);
            post.ride(0, 0, 1);
            Check.hoursGoBy(post, killed);
            Check.due("kill in " + killed, post.kill(0) ? 1 : 0, killed < 4 ? 1 : 0);
            for (int hour = killed; hour < 4; hour++) {
                Check.dueRider(post, 0, 4, 0, 0, -1, 1, 0);
                Check.dueSteed(post, 0, 49, -1);
                Check.due("horses at 0", post.at(0, 1), 0);
                Check.due("horses at 1", post.at(1, 1), 0);
                post.next();
            }
            Check.dueSteed(post, 0, 41, 1);
            Check.due("horses at 1", post.at(1, 1), 1);
            boolean alone = killed < 4;
            Check.due("state", post.rider(0, 0), alone ? 4 : 2);
            Check.due("station", post.rider(0, 1), alone ? 0 : 1);
            Check.due("come to", post.rider(0, 4), alone ? 1 : 2);
            Check.due("news", post.known(0, 1), alone ? -1 : 4);
            Check.due("void", post.voided(2, 1), alone ? -1 : 4);
            post.ride(1, 1, 0);
            post.next();
            Check.due("the horse is taken anew", post.rider(1, 3), 0);
        }
    }

    /** "HOUR is 0 at first, 9999 the last one", "NONE: it is 9999" */
    private static void theLastHourIs9999() {
        YamRiders post = road(24, 0, 1, 1);
        Check.due("at first", post.count(0), 0);
        Check.hoursGoBy(post, 9980);
        post.horse(0, 100);
        post.ride(0, 0, 1);
        Check.hoursGoBy(post, 18);
        Check.due("the last but one", post.count(0), 9998);
        Check.due("next", post.next(), 9999);
        Check.due("none", post.next(), -1);
        Check.due("the last", post.count(0), 9999);
        Check.dueRider(post, 0, 1, 0, 9980, 0, 1, 0);
        Check.due("others may begin in it", post.ride(1, 3, 3), 1);
        Check.due("in the last hour", post.rider(1, 2), 9999);
        Check.yes("told in it", post.cancel(1, 3));
        Check.due("since", post.voided(1, 3), 9999);
        Check.due("none", post.next(), -1);
    }
}
