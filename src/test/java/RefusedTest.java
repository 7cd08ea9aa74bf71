import java.util.function.Consumer;

/**
 * Every refused call of promises 2 to 23, one step and far outside of what is told, on a post that has something
 * of everything: it answers what the document says, and changes nothing but what the document says.
 */
public final class RefusedTest {
    private static final int LEAST = Integer.MIN_VALUE;
    private static final int MOST = Integer.MAX_VALUE;
    /** Far ones would be small again if they were cut to a byte, to two, or lost their sign. */
    private static final int[] NO_STATIONS = {-1, 12, 256, 65536, -256, LEAST, LEAST + 11, MOST};
    private static final int[] NO_RIDERS = {-1, 7, 59, 60, 256, LEAST, MOST};
    private static final int[] NO_TABLETS = {-1, 7, 19, 20, 256, LEAST, MOST};
    private static final int[] NO_HORSES = {-1, 9, 59, 60, 256, LEAST, MOST};

    public static void main(String[] args) {
        feedBeyondTwoHundred();
        endOfWhatTheTapeHasNot();
        statutesWithAFault();
        roads();
        snows();
        fodder();
        horses();
        tablets();
        rides();
        cancels();
        kills();
        hourAfterTheLast();
        ridersAndSteedsThrow();
        whatIsToldOfNothing();
        leadings();
        Check.finish();
    }

    /** "NONE, and none come, if it would have more than 200." */
    private static void feedBeyondTwoHundred() {
        for (int more : new int[] {181, 190, 199, 200}) {
            Twins.refused("feed behind " + more, post -> fill(post, more), post -> post.feed(1, -1, 2, LEAST, MOST),
                    -1);
        }
    }

    private static void fill(YamRiders post, int bytes) {
        while (post.count(5) < 200) {
            post.end(Math.min(180, post.count(5)));
            post.feed(0x20202020, 0x0a0a0a0a, 0x20202020, 0x20202020, 0x20202020);
        }
        Check.yes("end", post.end(bytes));
    }

    /** "false, if it has not so many, or n is below 0." */
    private static void endOfWhatTheTapeHasNot() {
        for (int n : new int[] {33, 34, 200, 201, 256, MOST, -1, -2, -256, LEAST}) {
            Twins.refused("end(" + n + ")", post -> Twins.bit(post.end(n)), 0);
        }
        Twins.refused("end(1) of none", post -> post.end(0), post -> Twins.bit(post.end(1)), 0);
        Twins.refused("end(201) of 200", post -> fill(post, 200), post -> Twins.bit(post.end(201)), 0);
    }

    /** "-1 - the place of a FAULT: they stay", and the tape is empty then: so what is left is the fault's kind. */
    private static void statutesWithAFault() {
        String[][] kinds = {
            {"tire 9;rest 0;hunger 50;keep 1 20;keep 2 0;keep 3 0;!", "1", "!"},
            {"tire 9;rest 0;hunger 50;keep 1 20;keep 2 0;keep 3 0;;", "2", ";"},
            {"tire 9;rest 0;hunger 50;keep 1 20;keep 2 0;keep 3 0", "2", ";"},
            {"tire 9;rest 0;hunger 50;keep 1 20;keep 2 0;keep 3 21;", "3", "tire 0"},
            {"tire 9;rest 0;hunger 50;keep 1 20;keep 2 0;keep 3 0;tire 1;", "4", "rest 1;rest"},
        };
        for (String[] kind : kinds) {
            Consumer<YamRiders> before = post -> {
                post.end(0);
                Check.feedBytes(post, kind[0].getBytes());
            };
            Twins.refusedBut("fault " + kind[1], before, post -> post.statutes() < 0 ? post.fault() : 0,
                    Integer.parseInt(kind[1]), post -> {
                        post.end(0);
                        Check.statutes(post, kind[2]);
                    });
            YamRiders faulty = Twins.rich();
            YamRiders cut = Twins.rich();
            before.accept(faulty);
            Check.yes("a fault", faulty.statutes() < 0);
            cut.end(0);
            for (int hour = 0; hour < 30; hour++) {
                Picture.sameBut("fault", "fault " + kind[1] + " and the statutes stay", faulty, cut);
                faulty.next();
                cut.next();
            }
        }
    }

    /** "between two STATIONS (unlike) takes HOURS ...: false, if they are not as told." */
    private static void roads() {
        for (int hours : new int[] {-1, -2, 25, 26, 256, 65536, LEAST, MOST}) {
            Twins.refused("road(0, 1, " + hours + ")", post -> Twins.bit(post.road(0, 1, hours)), 0);
            Twins.refused("road(2, 1, " + hours + ")", post -> Twins.bit(post.road(2, 1, hours)), 0);
            Twins.refused("road(7, 9, " + hours + ")", post -> Twins.bit(post.road(7, 9, hours)), 0);
        }
        for (int hours : new int[] {0, 1, 24}) {
            for (int s : NO_STATIONS) {
                Twins.refused("road(1, " + s + ")", post -> Twins.bit(post.road(1, s, hours)), 0);
                Twins.refused("road(" + s + ", 1)", post -> Twins.bit(post.road(s, 1, hours)), 0);
                Twins.refused("road(" + s + ", " + s + ")", post -> Twins.bit(post.road(s, s, hours)), 0);
            }
            for (int s : new int[] {0, 1, 11}) {
                Twins.refused("road of like ones", post -> Twins.bit(post.road(s, s, hours)), 0);
            }
        }
    }

    /** "false: there is none, or it is not as told." */
    private static void snows() {
        for (int more : new int[] {-1, -2, 25, 26, 256, 65536, LEAST, MOST}) {
            Twins.refused("snow(1, 2, " + more + ")", post -> Twins.bit(post.snow(1, 2, more)), 0);
            Twins.refused("snow(1, 0, " + more + ")", post -> Twins.bit(post.snow(1, 0, more)), 0);
        }
        for (int more : new int[] {0, 1, 24}) {
            Twins.refused("no road", post -> Twins.bit(post.snow(0, 2, more)), 0);
            Twins.refused("no road any more", post -> post.road(2, 1, 0), post -> Twins.bit(post.snow(1, 2, more)),
                    0);
            Twins.refused("like ones", post -> Twins.bit(post.snow(1, 1, more)), 0);
            for (int s : NO_STATIONS) {
                Twins.refused("snow(1, " + s + ")", post -> Twins.bit(post.snow(1, s, more)), 0);
                Twins.refused("snow(" + s + ", 1)", post -> Twins.bit(post.snow(s, 1, more)), 0);
                Twins.refused("snow(" + s + ", " + s + ")", post -> Twins.bit(post.snow(s, s, more)), 0);
            }
        }
    }

    /** "n (1 to 10000) more ...: NONE: no such one, or it would have too much." */
    private static void fodder() {
        for (int n : new int[] {0, -1, -50, 10001, 10002, 65537, LEAST, MOST}) {
            Twins.refused("fodder(0, " + n + ")", post -> post.fodder(0, n), -1);
            Twins.refused("fodder(11, " + n + ")", post -> post.fodder(11, n), -1);
        }
        for (int s : NO_STATIONS) {
            Twins.refused("fodder(" + s + ", 1)", post -> post.fodder(s, 1), -1);
            Twins.refused("fodder(" + s + ", 10000)", post -> post.fodder(s, 10000), -1);
        }
        Twins.refused("more than the most", post -> post.fodder(9, 1), -1);
        Twins.refused("much more than the most", post -> post.fodder(9, 10000), -1);
        Twins.refused("one too much", RefusedTest::nearlyFull, post -> post.fodder(3, 6), -1);
        Twins.refused("far too much", RefusedTest::nearlyFull, post -> post.fodder(3, 10000), -1);
    }

    private static void nearlyFull(YamRiders post) {
        for (int i = 0; i < 9; i++) {
            post.fodder(3, 10000);
        }
        Check.due("nearly full", post.fodder(3, 9995), 99995);
    }

    /** "NONE: there are 60, or a number is not as told." */
    private static void horses() {
        for (int strength : new int[] {-1, -100, 101, 102, 256, 65536, LEAST, MOST}) {
            Twins.refused("horse(0, " + strength + ")", post -> post.horse(0, strength), -1);
        }
        for (int s : NO_STATIONS) {
            Twins.refused("horse(" + s + ", 50)", post -> post.horse(s, 50), -1);
        }
        Consumer<YamRiders> sixty = post -> {
            for (int h = 9; h < 60; h++) {
                Check.due("horse", post.horse(h % 12, h), h);
            }
        };
        Twins.refused("there are 60", sixty, post -> post.horse(0, 50), -1);
        Twins.refused("there are 60", sixty, post -> post.horse(11, 100), -1);
    }

    /** "NONE: there are 20, or no such RANK." */
    private static void tablets() {
        for (int rank : new int[] {0, -1, 4, 5, 257, 65537, LEAST, LEAST + 1, MOST}) {
            Twins.refused("tablet(" + rank + ")", post -> post.tablet(rank), -1);
        }
        for (int rank = 1; rank <= 3; rank++) {
            int told = rank;
            Twins.refused("there are 20", RefusedTest::twentyTablets, post -> post.tablet(told), -1);
        }
    }

    private static void twentyTablets(YamRiders post) {
        for (int t = 7; t < 20; t++) {
            Check.due("tablet", post.tablet(1 + t % 3), t);
        }
    }

    /** "NONE: there are 60, no such ones, there is no WAY, or the TABLET is had." */
    private static void rides() {
        for (int t : NO_TABLETS) {
            Twins.refused("ride(" + t + ", 0, 1)", post -> post.ride(t, 0, 1), -1);
            Twins.refused("ride(" + t + ", 0, 0)", post -> post.ride(t, 0, 0), -1);
        }
        Twins.refused("ride(20, 0, 1)", RefusedTest::twentyTablets, post -> post.ride(20, 0, 1), -1);
        for (int s : NO_STATIONS) {
            Twins.refused("ride(4, 0, " + s + ")", post -> post.ride(4, 0, s), -1);
            Twins.refused("ride(4, " + s + ", 0)", post -> post.ride(4, s, 0), -1);
            Twins.refused("ride(4, " + s + ", " + s + ")", post -> post.ride(4, s, s), -1);
        }
        Twins.refused("no way", post -> post.ride(4, 0, 9), -1);
        Twins.refused("no way", post -> post.ride(4, 9, 0), -1);
        Twins.refused("no way any more", post -> post.road(1, 0, 0), post -> post.ride(4, 0, 3), -1);
        Twins.refused("had by one on a road", post -> post.ride(0, 0, 1), -1);
        Twins.refused("had by one on a road", post -> post.ride(0, 0, 0), -1);
        Twins.refused("had by one who waits", post -> post.ride(1, 0, 1), -1);
        Twins.refused("had by one who waits", post -> post.ride(1, 6, 6), -1);
        Consumer<YamRiders> sixty = post -> {
            for (int r = 7; r < 60; r++) {
                Check.due("ride", post.ride(2, r % 12, r % 12), r);
            }
        };
        Twins.refused("there are 60", sixty, post -> post.ride(4, 0, 1), -1);
        Twins.refused("there are 60", sixty, post -> post.ride(4, 0, 0), -1);
    }

    /** "false: no such ones, or it is KNOWN there." */
    private static void cancels() {
        for (int t : NO_TABLETS) {
            Twins.refused("cancel(" + t + ", 0)", post -> Twins.bit(post.cancel(t, 0)), 0);
        }
        for (int s : NO_STATIONS) {
            Twins.refused("cancel(0, " + s + ")", post -> Twins.bit(post.cancel(0, s)), 0);
        }
        Twins.refused("known since an earlier hour", post -> Twins.bit(post.cancel(2, 11)), 0);
        Twins.refused("known since this hour", post -> post.cancel(3, 4), post -> Twins.bit(post.cancel(3, 4)), 0);
        Consumer<YamRiders> carried = post -> {
            post.ride(6, 1, 0);
            Check.hoursGoBy(post, 4);
        };
        Twins.refused("carried there", carried, post -> Twins.bit(post.cancel(4, 0)), 0);
    }

    /** "false: no such one, or neither WAITING nor on a ROAD." */
    private static void kills() {
        for (int r : NO_RIDERS) {
            Twins.refused("kill(" + r + ")", post -> Twins.bit(post.kill(r)), 0);
        }
        for (int r = 3; r <= 6; r++) {
            int told = r;
            Twins.refused("kill(" + r + ")", post -> Twins.bit(post.kill(told)), 0);
        }
    }

    /** "NONE: it is 9999." */
    private static void hourAfterTheLast() {
        YamRiders one = Twins.rich();
        YamRiders other = Twins.rich();
        Check.hoursGoBy(one, 9996);
        Check.hoursGoBy(other, 9996);
        for (YamRiders post : new YamRiders[] {one, other}) {
            post.horse(5, 100);
            post.fodder(5, 100);
            post.horse(0, 100);
            Check.yes("waits at 6", post.kill(2));
            post.ride(1, 5, 6);
            Check.due("the last", post.next(), 9999);
            Check.due("came in it", post.rider(7, 2), 9999);
            post.ride(3, 0, 4);
            post.fodder(0, 100);
        }
        Check.due("none behind it", one.next(), -1);
        Picture.same("the last HOUR", one, other);
        Check.due("nor later", one.next(), -1);
        Picture.same("the last HOUR", one, other);
    }

    /** "NoSuchElementException: no such one, or another what", and "a call that throws changes nothing". */
    private static void ridersAndSteedsThrow() {
        for (int r : NO_RIDERS) {
            for (int what = 0; what <= 5; what++) {
                int told = what;
                Twins.refused("rider(" + r + ", " + what + ")", Twins.throwing(post -> post.rider(r, told)),
                        Twins.THROWN);
            }
        }
        for (int what : new int[] {-1, 6, 256, 65536, LEAST, MOST}) {
            for (int r = 0; r < 7; r++) {
                int told = r;
                Twins.refused("rider(" + r + ", " + what + ")", Twins.throwing(post -> post.rider(told, what)),
                        Twins.THROWN);
            }
            Twins.refused("rider(7, " + what + ")", Twins.throwing(post -> post.rider(7, what)), Twins.THROWN);
        }
        for (int h : NO_HORSES) {
            Twins.refused("steed(" + h + ", 0)", Twins.throwing(post -> post.steed(h, 0)), Twins.THROWN);
            Twins.refused("steed(" + h + ", 1)", Twins.throwing(post -> post.steed(h, 1)), Twins.THROWN);
        }
        for (int what : new int[] {-1, 2, 256, 65536, LEAST, MOST}) {
            for (int h : new int[] {0, 5, 8, 9}) {
                Twins.refused("steed(" + h + ", " + what + ")", Twins.throwing(post -> post.steed(h, what)),
                        Twins.THROWN);
            }
        }
    }

    /** The NONE of way, at, voided, known, hours and count. */
    private static void whatIsToldOfNothing() {
        for (int r : NO_RIDERS) {
            Twins.refused("way(" + r + ", 0)", post -> post.way(r, 0), -1);
            Twins.refused("known(" + r + ", 0)", post -> post.known(r, 0), -1);
        }
        for (int k : new int[] {-1, 4, 11, 12, 256, LEAST, MOST}) {
            Twins.refused("way(0, " + k + ")", post -> post.way(0, k), -1);
        }
        for (int s : NO_STATIONS) {
            for (int what = -1; what <= 3; what++) {
                int told = what;
                Twins.refused("at(" + s + ", " + what + ")", post -> post.at(s, told), -1);
            }
            Twins.refused("voided(2, " + s + ")", post -> post.voided(2, s), -1);
            Twins.refused("known(0, " + s + ")", post -> post.known(0, s), -1);
            Twins.refused("hours(0, " + s + ")", post -> post.hours(0, s), -1);
            Twins.refused("hours(" + s + ", 0)", post -> post.hours(s, 0), -1);
            Twins.refused("hours(" + s + ", " + s + ")", post -> post.hours(s, s), -1);
        }
        for (int what : new int[] {-1, 3, 256, LEAST, MOST}) {
            Twins.refused("at(0, " + what + ")", post -> post.at(0, what), -1);
        }
        for (int t : NO_TABLETS) {
            Twins.refused("voided(" + t + ", 0)", post -> post.voided(t, 0), -1);
        }
        for (int what : new int[] {-1, 6, 256, LEAST, MOST}) {
            Twins.refused("count(" + what + ")", post -> post.count(what), -1);
        }
        Twins.refused("not void there", post -> post.voided(2, 1), -1);
        Twins.refused("no news there", post -> post.known(0, 3), -1);
        Twins.refused("no way", post -> post.hours(0, 9), -1);
    }

    /** "The tape (empty then) ... NONE: not 12 bytes, or not as told; -2": the tape is empty in each case. */
    private static void leadings() {
        for (int bytes : new int[] {0, 1, 11, 13, 20, 32}) {
            Twins.refusedBut(bytes + " bytes", post -> post.end(bytes), YamRiders::leading, -1, post -> post.end(0));
        }
        Twins.refusedBut("12 bytes of a text", post -> post.end(12), YamRiders::leading, -1, post -> post.end(0));
        for (int wanted : new int[] {61, 128, 255}) {
            Twins.refusedBut("61 and more", post -> wants(post, 0, wanted), YamRiders::leading, -1,
                    post -> post.end(0));
        }
        Twins.refusedBut("too few", post -> wants(post, 0, 60), YamRiders::leading, -2, post -> post.end(0));
        Twins.refusedBut("one from 0 to 4", post -> wants(post, 2, 0), YamRiders::leading, 13, post -> post.end(0));
    }

    private static void wants(YamRiders post, int at4, int at11) {
        post.end(0);
        post.feed(0, at4 << 24, at11, 0, 0);
        post.end(12);
    }
}
