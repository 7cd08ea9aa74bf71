/** The sentences of the document's part 4, and of promise 22, at their bounds. */
public final class LeadingBoundsTest {
    public static void main(String[] args) {
        twelveBytes();
        wantsUpToSixty();
        notAsToldComesAheadOfTooFew();
        asManyAsItWantsAtLeast();
        tooFewInAll();
        tooFewThatCanCome();
        overRoadsTheLeast();
        snowIsCounted();
        eachToOneStation();
        theLeastOfTwoHorses();
        theLeastOfAllTogether();
        manyLeadElsewhere();
        eachCallByItself();
        horsesAtStationsAlone();
        theMostPains();
        theTapeIsEmptyThen();
        Check.finish();
    }

    private static int[] wants(int... pairs) {
        int[] wants = new int[12];
        for (int i = 0; i < pairs.length; i += 2) {
            wants[pairs[i]] = pairs[i + 1];
        }
        return wants;
    }

    private static void horses(YamRiders post, int s, int many) {
        for (int i = 0; i < many; i++) {
            post.horse(s, 0);
        }
    }

    /** "12 bytes ...: NONE: not 12 bytes" */
    private static void twelveBytes() {
        for (int bytes = 0; bytes <= 200; bytes++) {
            YamRiders post = new YamRiders();
            for (int i = 0; i < 10; i++) {
                post.feed(0, 0, 0, 0, 0);
            }
            Check.yes("end", post.end(bytes));
            Check.due(bytes + " bytes", post.leading(), bytes == 12 ? 0 : -1);
            Check.due("empty then", post.count(5), 0);
        }
    }

    /** "(0 to 60)": each byte at each of the twelve places */
    private static void wantsUpToSixty() {
        for (int s = 0; s < 12; s++) {
            YamRiders post = new YamRiders();
            horses(post, s, 60);
            for (int wanted = 0; wanted <= 255; wanted++) {
                Check.due(wanted + " at " + s, Check.leading(post, wants(s, wanted)), wanted <= 60 ? 0 : -1);
            }
        }
    }

    /** "NONE: ... not as told; -2": a tape that is not as told tells nothing that could be too few */
    private static void notAsToldComesAheadOfTooFew() {
        YamRiders post = new YamRiders();
        for (int s = 0; s < 12; s++) {
            int other = (s + 5) % 12;
            Check.due("61 and 60", Check.leading(post, wants(s, 61, other, 60)), -1);
            Check.due("60 and 60", Check.leading(post, wants(s, 60, other, 60)), -2);
        }
    }

    /** "at each STATION are as many as it wants, at least": fewer, as many, and one more than there are */
    private static void asManyAsItWantsAtLeast() {
        for (int there = 0; there <= 3; there++) {
            YamRiders post = new YamRiders();
            post.road(0, 1, 7);
            horses(post, 0, there);
            horses(post, 1, 2);
            for (int wanted = 0; wanted <= there + 3; wanted++) {
                int lack = Math.max(0, wanted - there);
                Check.due(wanted + " of " + there, Check.leading(post, wants(0, wanted)), lack > 2 ? -2 : 7 * lack);
            }
        }
    }

    /** "-2: there are too few HORSES that can come": all that there are, and one more */
    private static void tooFewInAll() {
        for (int there : new int[] {0, 1, 2, 59, 60}) {
            YamRiders post = new YamRiders();
            post.road(0, 1, 1);
            post.road(1, 2, 1);
            horses(post, 1, there);
            int half = there / 2;
            Check.due("all", Check.leading(post, wants(0, half, 2, there - half)), there);
            if (there < 60) {
                Check.due("one more", Check.leading(post, wants(0, half, 2, there - half + 1)), -2);
                Check.due("one more", Check.leading(post, wants(1, there + 1)), -2);
            }
            Check.due("one more", Check.leading(post, wants(0, half, 1, 1, 2, there - half)), -2);
        }
        YamRiders none = new YamRiders();
        Check.due("none wanted, none there", Check.leading(none, wants()), 0);
        Check.due("one wanted, none there", Check.leading(none, wants(11, 1)), -2);
        int[] all = new int[12];
        java.util.Arrays.fill(all, 60);
        Check.due("720 wanted", Check.leading(none, all), -2);
    }

    /** The same sentence: horses enough, but no road; then one, then none again */
    private static void tooFewThatCanCome() {
        YamRiders post = new YamRiders();
        horses(post, 3, 5);
        post.road(4, 5, 2);
        Check.due("no road", Check.leading(post, wants(4, 1)), -2);
        Check.due("where they are", Check.leading(post, wants(3, 5)), 0);
        post.road(3, 5, 24);
        Check.due("a road", Check.leading(post, wants(4, 1)), 26);
        Check.due("one at each", Check.leading(post, wants(3, 3, 4, 1, 5, 1)), 50);
        post.road(5, 4, 0);
        Check.due("no road to 4", Check.leading(post, wants(4, 1, 5, 1)), -2);
        Check.due("to 5 alone", Check.leading(post, wants(5, 1)), 24);
    }

    /** "led over ROADS (HOURS and SNOW, the least)": straight on, or over a third station */
    private static void overRoadsTheLeast() {
        for (int straight = 1; straight <= 24; straight++) {
            YamRiders post = new YamRiders();
            post.road(0, 11, straight);
            post.road(0, 5, 6);
            post.road(5, 11, 6);
            horses(post, 0, 2);
            Check.due("one", Check.leading(post, wants(11, 1)), Math.min(12, straight));
            Check.due("two", Check.leading(post, wants(11, 2)), 2 * Math.min(12, straight));
            Check.due("one each", Check.leading(post, wants(11, 1, 5, 1)), 6 + Math.min(12, straight));
        }
    }

    /** The same sentence: SNOW as it is now */
    private static void snowIsCounted() {
        for (int snow = 0; snow <= 24; snow++) {
            YamRiders post = new YamRiders();
            post.road(0, 1, 1);
            post.road(2, 1, 13);
            horses(post, 0, 1);
            horses(post, 2, 1);
            post.snow(0, 1, snow);
            Check.due("one", Check.leading(post, wants(1, 1)), Math.min(13, 1 + snow));
            Check.due("both", Check.leading(post, wants(1, 2)), 14 + snow);
            post.snow(0, 1, 0);
            Check.due("without snow", Check.leading(post, wants(1, 1)), 1);
        }
    }

    /** "each to one STATION": one horse is not enough for two, though it goes through both */
    private static void eachToOneStation() {
        YamRiders post = new YamRiders();
        post.road(0, 1, 3);
        post.road(1, 2, 4);
        horses(post, 0, 1);
        Check.due("for 1", Check.leading(post, wants(1, 1)), 3);
        Check.due("for 2", Check.leading(post, wants(2, 1)), 7);
        Check.due("for 1 and 2", Check.leading(post, wants(1, 1, 2, 1)), -2);
        Check.due("for 0 and 2", Check.leading(post, wants(0, 1, 2, 1)), -2);
        horses(post, 1, 1);
        Check.due("for 1 and 2", Check.leading(post, wants(1, 1, 2, 1)), 7);
        Check.due("for 0 and 2", Check.leading(post, wants(0, 1, 2, 1)), 4);
    }

    /** "The least PAINS": of two horses the nearer, like ones, and the other one */
    private static void theLeastOfTwoHorses() {
        for (int left = 1; left <= 24; left++) {
            for (int right = 1; right <= 24; right += 7) {
                YamRiders post = new YamRiders();
                post.road(4, 3, left);
                post.road(4, 9, right);
                horses(post, 3, 1);
                horses(post, 9, 1);
                Check.due("one", Check.leading(post, wants(4, 1)), Math.min(left, right));
                Check.due("two", Check.leading(post, wants(4, 2)), left + right);
                Check.due("3 keeps its own", Check.leading(post, wants(4, 1, 3, 1)), right);
            }
        }
    }

    /** The same sentence: the nearest horse for each is not the least for all, a chain of them long */
    private static void theLeastOfAllTogether() {
        for (int last = 1; last <= 24; last++) {
            YamRiders post = new YamRiders();
            post.road(0, 1, 1);
            post.road(1, 2, 2);
            post.road(2, 3, 1);
            post.road(3, 4, 2);
            post.road(0, 5, last);
            horses(post, 0, 1);
            horses(post, 2, 1);
            horses(post, 4, 1);
            Check.due("1 and 3", Check.leading(post, wants(1, 1, 3, 1)), 2);
            Check.due("1, 3 and 5", Check.leading(post, wants(1, 1, 3, 1, 5, 1)), 2 + 2 + last);
            Check.due("5 alone", Check.leading(post, wants(5, 1)), last);
            Check.due("1 and 5", Check.leading(post, wants(1, 1, 5, 1)), 2 + last);
        }
    }

    /** The same sentence: of the horses of 0, fewer than 5 wants, as many, and more, are wanted nearby, too */
    private static void manyLeadElsewhere() {
        for (int near = 1; near <= 4; near++) {
            for (int far = 0; far <= 6; far++) {
                YamRiders post = new YamRiders();
                post.road(0, 1, 1);
                post.road(1, 2, 2);
                post.road(0, 5, 10);
                horses(post, 0, near);
                horses(post, 2, 10);
                int pains = near - 2 * Math.min(near, far) + 13 * far;
                Check.due(near + " and " + far, Check.leading(post, wants(1, near, 5, far)), pains);
            }
        }
    }

    /** "may be led": no horse is; what one call would lead is no matter to the next one */
    private static void eachCallByItself() {
        YamRiders post = new YamRiders();
        post.road(0, 1, 5);
        post.road(1, 2, 5);
        horses(post, 0, 3);
        for (int i = 0; i < 3; i++) {
            Check.due("to 2", Check.leading(post, wants(2, 3)), 30);
            Check.due("to 1", Check.leading(post, wants(1, 2)), 10);
            Check.due("too many", Check.leading(post, wants(1, 4)), -2);
            Check.due("stay", Check.leading(post, wants(0, 3)), 0);
        }
        horses(post, 2, 1);
        Check.due("from 2", Check.leading(post, wants(1, 1, 0, 3)), 5);
        Check.due("there", post.at(0, 1), 3);
    }

    /** "those at STATIONS": not while on a road; again from the hour in which they come, with a rider or alone */
    private static void horsesAtStationsAlone() {
        for (int killed = 0; killed <= 1; killed++) {
            YamRiders post = new YamRiders();
            post.road(0, 1, 3);
            post.tablet(1);
            post.horse(0, 90);
            post.ride(0, 0, 1);
            Check.due("at 0", Check.leading(post, wants(0, 1)), 0);
            for (int hour = 1; hour <= 2; hour++) {
                post.next();
                if (killed == 1) {
                    post.kill(0);
                }
                Check.due("on the road", Check.leading(post, wants(0, 1)), -2);
                Check.due("on the road", Check.leading(post, wants(1, 1)), -2);
                Check.due("none wanted", Check.leading(post, wants()), 0);
            }
            post.next();
            Check.due("at 1", Check.leading(post, wants(1, 1)), 0);
            Check.due("at 1", Check.leading(post, wants(0, 1)), 3);
        }
    }

    /** As many as can be, as far as can be. */
    private static void theMostPains() {
        YamRiders post = new YamRiders();
        for (int s = 0; s < 11; s++) {
            post.road(s, s + 1, 24);
            post.snow(s, s + 1, 24);
        }
        horses(post, 11, 60);
        Check.due("all to the end", Check.leading(post, wants(0, 60)), 60 * 528);
        Check.due("all but one", Check.leading(post, wants(0, 59, 11, 1)), 59 * 528);
        Check.due("one too many", Check.leading(post, wants(0, 60, 11, 1)), -2);
    }

    /** "The tape (empty then)", whatever is answered; and asking again is asking with an empty tape */
    private static void theTapeIsEmptyThen() {
        YamRiders post = new YamRiders();
        post.horse(0, 9);
        int[][] tapes = {wants(0, 1), wants(0, 2), wants(0, 61), new int[11], new int[13], new int[0]};
        int[] answers = {0, -2, -1, -1, -1, -1};
        for (int i = 0; i < tapes.length; i++) {
            Check.due("leading", Check.leading(post, tapes[i]), answers[i]);
            Check.due("bytes", post.count(5), 0);
            Check.no("end(1)", post.end(1));
            Check.due("again", post.leading(), -1);
        }
    }
}
