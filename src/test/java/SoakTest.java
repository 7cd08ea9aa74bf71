import java.util.ArrayList;
import java.util.Collections;
import java.util.List;
import java.util.NoSuchElementException;
import java.util.Random;

/** Long runs at random, in which every answer is compared with the model's; and wild numbers everywhere. */
public final class SoakTest {
    private static final String[] RULES = {"tire", "rest", "hunger", "keep 1", "keep 2", "keep 3"};

    public static void main(String[] args) {
        for (int seed = 0; seed < 400; seed++) {
            livelyRun(seed);
        }
        for (int seed = 0; seed < 200; seed++) {
            wildRun(seed);
        }
        Check.finish();
    }

    private static void livelyRun(int seed) {
        Random random = new Random(seed);
        int stations = 2 + random.nextInt(11);
        int longest = 1 + random.nextInt(random.nextBoolean() ? 24 : 5);
        YamRiders post = new YamRiders();
        Model model = new Model();
        for (int i = 0; i < 6; i++) {
            livelyStatutes(random, post, model);
        }
        for (int i = 0; i < 25; i++) {
            layRoad(random, post, model, stations, longest);
        }
        for (int call = 0; call < 400; call++) {
            livelyCall(random, post, model, stations, longest);
            if (call % 20 == 0) {
                compare(post, model);
            }
        }
        compare(post, model);
    }

    private static void layRoad(Random random, YamRiders post, Model model, int stations, int longest) {
        int u = random.nextInt(stations);
        int v = random.nextInt(stations);
        int hours = random.nextInt(longest + 1);
        Check.due("road", bit(post.road(u, v, hours)), bit(model.road(u, v, hours)));
    }

    /** Some rules are left out, in any order of the others; a text with a fault leaves the statutes as they are. */
    private static void livelyStatutes(Random random, YamRiders post, Model model) {
        int[] told = {2, 3, 1, 0, 0, 0};
        List<Integer> rules = new ArrayList<>(List.of(0, 1, 2, 3, 4, 5));
        Collections.shuffle(rules, random);
        int count = random.nextBoolean() ? 6 : random.nextInt(7);
        StringBuilder text = new StringBuilder();
        for (int rule : rules.subList(0, count)) {
            told[rule] = livelyNumber(random, rule);
            text.append(RULES[rule]).append(' ').append(told[rule]).append(random.nextBoolean() ? ";" : " ;\n");
        }
        if (random.nextInt(5) == 0) {
            int place = text.length();
            boolean isToken = random.nextBoolean();
            text.append(isToken ? "tires 1;" : "=");
            Check.due("statutes", Check.statutes(post, text.toString()), -1 - place);
            Check.due("fault", post.fault(), isToken ? 2 : 1);
            return;
        }
        Check.due("statutes", Check.statutes(post, text.toString()), count);
        Check.due("fault", post.fault(), 0);
        model.tire = told[0];
        model.rest = told[1];
        model.hunger = told[2];
        System.arraycopy(told, 3, model.keep, 1, 3);
    }

    private static int livelyNumber(Random random, int rule) {
        boolean isHigh = random.nextInt(4) == 0;
        return switch (rule) {
            case 0 -> 1 + random.nextInt(isHigh ? 9 : 3);
            case 1 -> random.nextInt(51);
            case 2 -> random.nextInt(isHigh ? 51 : 3);
            default -> random.nextInt(isHigh ? 21 : 2);
        };
    }

    private static void livelyCall(Random random, YamRiders post, Model model, int stations, int longest) {
        int u = random.nextInt(stations);
        int v = random.nextInt(stations);
        int n = random.nextInt(101);
        int t = random.nextInt(20);
        switch (random.nextInt(22)) {
            case 0 -> layRoad(random, post, model, stations, longest);
            case 1 -> Check.due("snow", bit(post.snow(u, v, n % 25)), bit(model.snow(u, v, n % 25)));
            case 2 -> Check.due("fodder", post.fodder(u, n), model.fodder(u, n));
            case 3, 4 -> Check.due("horse", post.horse(u, n), model.horse(u, n));
            case 5, 6 -> Check.due("tablet", post.tablet(n % 4), model.tablet(n % 4));
            case 7, 8, 9 -> Check.due("ride", post.ride(t, u, v), model.ride(t, u, v));
            case 10 -> Check.due("cancel", bit(post.cancel(t, u)), bit(model.cancel(t, u)));
            case 11 -> {
                if (n < 30) {
                    Check.due("kill", bit(post.kill(n)), bit(model.kill(n)));
                }
            }
            case 12 -> {
                if (n < 10) {
                    livelyStatutes(random, post, model);
                }
            }
            default -> Check.due("next", post.next(), model.next());
        }
    }

    private static void compare(YamRiders post, Model model) {
        for (int what = 0; what <= 4; what++) {
            Check.due("count", post.count(what), model.count(what));
        }
        for (int r = -1; r <= 60; r++) {
            for (int what = -1; what <= 6; what++) {
                Check.due("rider(" + r + ", " + what + ")", riderOf(post, r, what), model.rider(r, what));
            }
            for (int k = -1; k <= 12; k++) {
                Check.due("way(" + r + ", " + k + ")", post.way(r, k), model.way(r, k));
                Check.due("known(" + r + ", " + k + ")", post.known(r, k), model.known(r, k));
            }
        }
        for (int h = -1; h <= 60; h++) {
            for (int what = -1; what <= 2; what++) {
                Check.due("steed(" + h + ", " + what + ")", steedOf(post, h, what), model.steed(h, what));
            }
        }
        for (int s = -1; s <= 12; s++) {
            for (int what = -1; what <= 3; what++) {
                Check.due("at(" + s + ", " + what + ")", post.at(s, what), model.at(s, what));
            }
            for (int t = -1; t <= 20; t++) {
                Check.due("voided(" + t + ", " + s + ")", post.voided(t, s), model.voided(t, s));
            }
            for (int v = -1; v <= 12; v++) {
                Check.due("hours(" + s + ", " + v + ")", post.hours(s, v), model.hours(s, v));
            }
        }
    }

    private static int bit(boolean answer) {
        return answer ? 1 : 0;
    }

    private static int riderOf(YamRiders post, int r, int what) {
        try {
            return post.rider(r, what);
        } catch (NoSuchElementException e) {
            return -99;
        }
    }

    private static int steedOf(YamRiders post, int h, int what) {
        try {
            return post.steed(h, what);
        } catch (NoSuchElementException e) {
            return -99;
        }
    }

    private static int wild(Random random) {
        return switch (random.nextInt(8)) {
            case 0 -> random.nextInt();
            case 1 -> Integer.MIN_VALUE + random.nextInt(3);
            case 2 -> Integer.MAX_VALUE - random.nextInt(3);
            case 3 -> random.nextInt(300) - 100;
            default -> random.nextInt(16) - 2;
        };
    }

    /** Only rider and steed may throw, and only the one exception: any other ends the test. */
    private static void wildRun(int seed) {
        Random random = new Random(seed);
        YamRiders post = new YamRiders();
        for (int call = 0; call < 3000; call++) {
            wildCall(random, post, wild(random), wild(random), wild(random));
        }
        Check.yes("HOUR", post.count(0) >= 0);
        Check.yes("tape", post.count(5) >= 0 && post.count(5) <= 200);
    }

    private static void wildCall(Random random, YamRiders post, int a, int b, int c) {
        switch (random.nextInt(22)) {
            case 0 -> post.feed(a, b, c, a, b);
            case 1 -> post.end(a);
            case 2 -> post.statutes();
            case 3 -> post.fault();
            case 4 -> post.road(a, b, c);
            case 5 -> post.snow(a, b, c);
            case 6 -> post.fodder(a, b);
            case 7 -> post.horse(a, b);
            case 8 -> post.tablet(a);
            case 9 -> post.ride(a, b, c);
            case 10 -> post.cancel(a, b);
            case 11 -> post.kill(a);
            case 12 -> riderOf(post, a, b);
            case 13 -> post.way(a, b);
            case 14 -> steedOf(post, a, b);
            case 15 -> post.at(a, b);
            case 16 -> post.voided(a, b);
            case 17 -> post.known(a, b);
            case 18 -> post.hours(a, b);
            case 19 -> {
                post.end(0);
                post.feed(a & 0x07070707, b & 0x03030303, c & 0x01010101, a, b);
                post.end(12);
                post.leading();
            }
            case 20 -> post.count(a);
            default -> post.next();
        }
    }
}
