import java.util.ArrayList;
import java.util.Comparator;
import java.util.List;
import java.util.TreeMap;

/** A second telling of the document, in other words than the class: hours by events, ways by relaxing all roads. */
final class Model {
    static final class Horse {
        int strength;
        int station;
    }

    static final class Rider {
        int number;
        int tablet;
        List<Integer> way = new ArrayList<>();
        String state = "WAITING";
        int reached = 1;
        int came;
        int horse = -1;
        int arrives;
        int time;
        List<Integer> carried = new ArrayList<>();
        TreeMap<Integer, Integer> news = new TreeMap<>();

        int station() {
            return way.get(reached - 1);
        }

        boolean active() {
            return state.equals("WAITING") || state.equals("ROAD");
        }
    }

    static final List<String> STATES = List.of("WAITING", "ROAD", "THERE", "STOPPED", "DEAD");

    int hour;
    int tire = 2;
    int rest = 3;
    int hunger = 1;
    int[] keep = new int[4];
    /** By 12 * u + v, for both orders. */
    TreeMap<Integer, int[]> roads = new TreeMap<>();
    int[] fodder = new int[12];
    List<Horse> horses = new ArrayList<>();
    List<Integer> tablets = new ArrayList<>();
    List<Rider> riders = new ArrayList<>();
    /** By 12 * tablet + station. */
    TreeMap<Integer, Integer> voids = new TreeMap<>();

    static boolean station(int s) {
        return 0 <= s && s <= 11;
    }

    boolean road(int u, int v, int hours) {
        if (!station(u) || !station(v) || u == v || hours < 0 || hours > 24) {
            return false;
        }
        roads.remove(12 * u + v);
        roads.remove(12 * v + u);
        if (hours > 0) {
            int[] both = {hours, 0};
            roads.put(12 * u + v, both);
            roads.put(12 * v + u, both);
        }
        return true;
    }

    int[] roadOf(int u, int v) {
        return station(u) && station(v) ? roads.get(12 * u + v) : null;
    }

    boolean snow(int u, int v, int more) {
        int[] road = roadOf(u, v);
        if (road == null || more < 0 || more > 24) {
            return false;
        }
        road[1] = more;
        return true;
    }

    int fodder(int s, int n) {
        if (!station(s) || n < 1 || n > 10000 || fodder[s] > 100000 - n) {
            return -1;
        }
        return fodder[s] += n;
    }

    int horse(int s, int strength) {
        if (!station(s) || strength < 0 || strength > 100 || horses.size() == 60) {
            return -1;
        }
        Horse horse = new Horse();
        horse.station = s;
        horse.strength = strength;
        horses.add(horse);
        return horses.size() - 1;
    }

    int tablet(int rank) {
        if (rank < 1 || rank > 3 || tablets.size() == 20) {
            return -1;
        }
        tablets.add(rank);
        return tablets.size() - 1;
    }

    int[] leastTo(int v) {
        int[] least = new int[12];
        java.util.Arrays.fill(least, 9999);
        least[v] = 0;
        for (int i = 0; i < 12; i++) {
            for (int key : roads.keySet()) {
                int[] road = roads.get(key);
                least[key / 12] = Math.min(least[key / 12], least[key % 12] + road[0] + road[1]);
            }
        }
        return least;
    }

    int hours(int u, int v) {
        if (!station(u) || !station(v)) {
            return -1;
        }
        int least = leastTo(v)[u];
        return least == 9999 ? -1 : least;
    }

    int ride(int t, int u, int v) {
        if (riders.size() == 60 || t < 0 || t >= tablets.size() || hours(u, v) == -1
                || riders.stream().anyMatch(r -> r.tablet == t && r.active())) {
            return -1;
        }
        Rider rider = new Rider();
        rider.number = riders.size();
        rider.tablet = t;
        rider.way.add(u);
        int[] least = leastTo(v);
        while (u != v) {
            int from = u;
            for (int s = 11; s >= 0; s--) {
                int[] road = roadOf(from, s);
                if (road != null && least[s] + road[0] + road[1] == least[from]) {
                    u = s;
                }
            }
            rider.way.add(u);
        }
        rider.came = hour;
        rider.news.put(rider.way.get(0), hour);
        rider.state = rider.way.size() == 1 ? "THERE" : "WAITING";
        riders.add(rider);
        return rider.number;
    }

    boolean cancel(int t, int s) {
        if (t < 0 || t >= tablets.size() || !station(s)) {
            return false;
        }
        return voids.putIfAbsent(12 * t + s, hour) == null;
    }

    boolean kill(int r) {
        if (r < 0 || r >= riders.size() || !riders.get(r).active()) {
            return false;
        }
        riders.get(r).state = "DEAD";
        return true;
    }

    int next() {
        if (hour == 9999) {
            return -1;
        }
        for (Horse horse : horses) {
            if (horse.station == -1) {
                continue;
            }
            boolean fed = fodder[horse.station] > 0;
            fodder[horse.station] -= fed ? 1 : 0;
            horse.strength = fed ? Math.min(horse.strength + rest, 100) : Math.max(horse.strength - hunger, 0);
        }
        List<Rider> waiting = new ArrayList<>(riders);
        waiting.removeIf(r -> !r.state.equals("WAITING"));
        waiting.sort(Comparator.comparingInt(Rider::station).thenComparingInt(r -> tablets.get(r.tablet))
                .thenComparingInt(r -> r.came).thenComparingInt(r -> r.number));
        waiting.forEach(this::leave);
        hour++;
        for (Rider rider : riders) {
            if (rider.horse != -1 && rider.arrives == hour) {
                arrive(rider);
            }
        }
        return hour;
    }

    private void leave(Rider rider) {
        int here = rider.station();
        if (voids.containsKey(12 * rider.tablet + here)) {
            rider.state = "STOPPED";
            return;
        }
        int[] road = roadOf(here, rider.way.get(rider.reached));
        long there = horses.stream().filter(h -> h.station == here).count();
        if (road == null || there <= keep[tablets.get(rider.tablet)]) {
            return;
        }
        int best = -1;
        for (int h = horses.size() - 1; h >= 0; h--) {
            if (horses.get(h).station == here
                    && (best == -1 || horses.get(h).strength >= horses.get(best).strength)) {
                best = h;
            }
        }
        int time = road[0] + road[1];
        if (horses.get(best).strength < tire * time) {
            return;
        }
        horses.get(best).station = -1;
        rider.horse = best;
        rider.time = time;
        rider.arrives = hour + time;
        rider.state = "ROAD";
        rider.carried.clear();
        for (int t = 0; t < tablets.size(); t++) {
            if (voids.containsKey(12 * t + here)) {
                rider.carried.add(t);
            }
        }
    }

    private void arrive(Rider rider) {
        int to = rider.way.get(rider.reached);
        Horse horse = horses.get(rider.horse);
        horse.station = to;
        horse.strength = Math.max(0, horse.strength - tire * rider.time);
        rider.horse = -1;
        if (!rider.state.equals("ROAD")) {
            return;
        }
        for (int t : rider.carried) {
            voids.putIfAbsent(12 * t + to, hour);
        }
        rider.reached++;
        rider.came = hour;
        rider.news.putIfAbsent(to, hour);
        rider.state = rider.reached == rider.way.size() ? "THERE" : "WAITING";
    }

    /** -99 where the call throws. */
    int rider(int r, int what) {
        if (r < 0 || r >= riders.size()) {
            return -99;
        }
        Rider rider = riders.get(r);
        return switch (what) {
            case 0 -> STATES.indexOf(rider.state);
            case 1 -> rider.station();
            case 2 -> rider.came;
            case 3 -> rider.state.equals("ROAD") ? rider.horse : -1;
            case 4 -> rider.reached;
            case 5 -> rider.tablet;
            default -> -99;
        };
    }

    /** -99 where the call throws. */
    int steed(int h, int what) {
        if (h < 0 || h >= horses.size() || what < 0 || what > 1) {
            return -99;
        }
        return what == 0 ? horses.get(h).strength : horses.get(h).station;
    }

    int way(int r, int k) {
        if (r < 0 || r >= riders.size() || k < 0 || k >= riders.get(r).way.size()) {
            return -1;
        }
        return riders.get(r).way.get(k);
    }

    int at(int s, int what) {
        if (!station(s)) {
            return -1;
        }
        return switch (what) {
            case 0 -> fodder[s];
            case 1 -> (int) horses.stream().filter(h -> h.station == s).count();
            case 2 -> (int) riders.stream().filter(r -> r.state.equals("WAITING") && r.station() == s).count();
            default -> -1;
        };
    }

    int voided(int t, int s) {
        return t < 0 || t >= tablets.size() || !station(s) ? -1 : voids.getOrDefault(12 * t + s, -1);
    }

    int known(int r, int s) {
        return r < 0 || r >= riders.size() || !station(s) ? -1 : riders.get(r).news.getOrDefault(s, -1);
    }

    int count(int what) {
        return switch (what) {
            case 0 -> hour;
            case 1 -> horses.size();
            case 2 -> tablets.size();
            case 3 -> riders.size();
            case 4 -> (int) riders.stream().filter(Rider::active).count();
            default -> -1;
        };
    }
}
