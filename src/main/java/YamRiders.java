import java.util.Arrays;
import java.util.NoSuchElementException;

/** A realm's post, hour by hour. README.md says how to use it, the document what each call answers. */
public final class YamRiders {
    public static final int NONE = -1;

    private static final int STATIONS = 12;
    private static final int HORSE_LIMIT = 60;
    private static final int TABLET_LIMIT = 20;
    private static final int RIDER_LIMIT = 60;
    private static final int TAPE_LIMIT = 200;
    private static final int FEED_BYTES = 20;
    private static final int RANKS = 3;
    private static final int LAST_HOUR = 9999;
    private static final int ROAD_LIMIT = 24;
    private static final int SNOW_LIMIT = 24;
    private static final int STRENGTH_LIMIT = 100;
    private static final int FODDER_LIMIT = 100000;
    private static final int FODDER_AT_ONCE = 10000;
    private static final int TOO_FEW = -2;
    private static final int UNREACHED = 1000000;

    private static final int WAITING = 0;
    private static final int ON_ROAD = 1;
    private static final int THERE = 2;
    private static final int STOPPED = 3;
    private static final int DEAD = 4;

    private final Tape tape = new Tape();
    private final Roads roads = new Roads();
    private final Leader leader = new Leader();
    private final int[] fodderAt = new int[STATIONS];
    private final Horse[] horses = new Horse[HORSE_LIMIT];
    private final Tablet[] tablets = new Tablet[TABLET_LIMIT];
    private final Rider[] riders = new Rider[RIDER_LIMIT];
    private final Rider[] line = new Rider[RIDER_LIMIT];
    private Statutes law = new Statutes();
    private int faultKind;
    private int horseCount;
    private int tabletCount;
    private int riderCount;
    private int lineLength;
    private int hour;

    public YamRiders() {
    }

    public int feed(int a, int b, int c, int d, int e) {
        if (!tape.hasRoomFor(FEED_BYTES)) {
            return NONE;
        }
        tape.addNumber(a);
        tape.addNumber(b);
        tape.addNumber(c);
        tape.addNumber(d);
        tape.addNumber(e);
        return tape.length;
    }

    public boolean end(int n) {
        if (n < 0 || n > tape.length) {
            return false;
        }
        tape.length = n;
        return true;
    }

    public int statutes() {
        StatuteReader reader = new StatuteReader(tape);
        reader.readText();
        tape.length = 0;
        faultKind = reader.faultKind;
        if (faultKind != 0) {
            return -1 - reader.faultPlace;
        }
        law = reader.told;
        return reader.ruleCount;
    }

    public int fault() {
        return faultKind;
    }

    public boolean road(int u, int v, int hours) {
        if (!isStation(u) || !isStation(v) || u == v || hours < 0 || hours > ROAD_LIMIT) {
            return false;
        }
        roads.lay(u, v, hours);
        return true;
    }

    public boolean snow(int u, int v, int more) {
        if (roads.timeBetween(u, v) == NONE || more < 0 || more > SNOW_LIMIT) {
            return false;
        }
        roads.setSnow(u, v, more);
        return true;
    }

    public int fodder(int s, int n) {
        if (!isStation(s) || n < 1 || n > FODDER_AT_ONCE || fodderAt[s] + n > FODDER_LIMIT) {
            return NONE;
        }
        fodderAt[s] += n;
        return fodderAt[s];
    }

    public int horse(int s, int strength) {
        if (horseCount >= HORSE_LIMIT || !isStation(s) || strength < 0 || strength > STRENGTH_LIMIT) {
            return NONE;
        }
        horses[horseCount] = new Horse(horseCount, s, strength);
        horseCount++;
        return horseCount - 1;
    }

    public int tablet(int rank) {
        if (tabletCount >= TABLET_LIMIT || rank < 1 || rank > RANKS) {
            return NONE;
        }
        tablets[tabletCount] = new Tablet(rank);
        tabletCount++;
        return tabletCount - 1;
    }

    public int ride(int t, int u, int v) {
        Tablet tablet = tabletOf(t);
        if (riderCount >= RIDER_LIMIT || tablet == null || isHad(t)) {
            return NONE;
        }
        int[] way = roads.findWay(u, v);
        if (way == null) {
            return NONE;
        }
        Rider rider = new Rider(t, tablet.rank, way);
        rider.comeToNextStation(hour);
        riders[riderCount] = rider;
        riderCount++;
        return riderCount - 1;
    }

    public boolean cancel(int t, int s) {
        Tablet tablet = tabletOf(t);
        return tablet != null && tablet.tellVoid(s, hour);
    }

    public boolean kill(int r) {
        Rider rider = riderOf(r);
        if (rider == null || !rider.isUnderWay()) {
            return false;
        }
        rider.state = DEAD;
        return true;
    }

    public int next() {
        if (hour >= LAST_HOUR) {
            return NONE;
        }
        careForHorses();
        lineUpWaiting();
        sendLine();
        hour++;
        bringComers();
        return hour;
    }

    public int rider(int r, int what) throws NoSuchElementException {
        Rider rider = riderOf(r);
        if (rider == null || what < 0 || what > 5) {
            throw new NoSuchElementException("no such rider, or nothing of the kind is told of riders");
        }
        switch (what) {
            case 0:
                return rider.state;
            case 1:
                return rider.lastStation();
            case 2:
                return rider.came;
            case 3:
                return rider.horseRidden();
            case 4:
                return rider.reached;
            default:
                return rider.tablet;
        }
    }

    public int way(int r, int k) {
        Rider rider = riderOf(r);
        return rider == null ? NONE : rider.stationOfWay(k);
    }

    public int steed(int h, int what) throws NoSuchElementException {
        Horse horse = horseOf(h);
        if (horse == null || what < 0 || what > 1) {
            throw new NoSuchElementException("no such horse, or nothing of the kind is told of horses");
        }
        return what == 0 ? horse.strength : horse.station;
    }

    public int at(int s, int what) {
        if (!isStation(s)) {
            return NONE;
        }
        switch (what) {
            case 0:
                return fodderAt[s];
            case 1:
                return horsesAt(s);
            case 2:
                return ridersWaitingAt(s);
            default:
                return NONE;
        }
    }

    public int voided(int t, int s) {
        Tablet tablet = tabletOf(t);
        return tablet == null ? NONE : tablet.voidSince(s);
    }

    public int known(int r, int s) {
        Rider rider = riderOf(r);
        return rider == null ? NONE : rider.newsKnownSince(s);
    }

    public int hours(int u, int v) {
        return roads.leastTime(u, v);
    }

    public int leading() {
        boolean asTold = tape.length == STATIONS;
        for (int s = 0; s < STATIONS && asTold; s++) {
            int wanted = tape.byteAt(s);
            asTold = wanted <= HORSE_LIMIT;
            leader.setSpare(s, horsesAt(s) - wanted);
        }
        tape.length = 0;
        return asTold ? leader.leastPains(roads) : NONE;
    }

    public int count(int what) {
        switch (what) {
            case 0:
                return hour;
            case 1:
                return horseCount;
            case 2:
                return tabletCount;
            case 3:
                return riderCount;
            case 4:
                return ridersUnderWay();
            case 5:
                return tape.length;
            default:
                return NONE;
        }
    }

    private static boolean isStation(int s) {
        return s >= 0 && s < STATIONS;
    }

    private Horse horseOf(int h) {
        return h >= 0 && h < HORSE_LIMIT ? horses[h] : null;
    }

    private Tablet tabletOf(int t) {
        return t >= 0 && t < TABLET_LIMIT ? tablets[t] : null;
    }

    private Rider riderOf(int r) {
        return r >= 0 && r < RIDER_LIMIT ? riders[r] : null;
    }

    private boolean isHad(int t) {
        for (Rider rider : riders) {
            if (rider != null && rider.tablet == t && rider.isUnderWay()) {
                return true;
            }
        }
        return false;
    }

    private int ridersUnderWay() {
        int found = 0;
        for (Rider rider : riders) {
            if (rider != null && rider.isUnderWay()) {
                found++;
            }
        }
        return found;
    }

    private int ridersWaitingAt(int s) {
        int found = 0;
        for (Rider rider : riders) {
            if (rider != null && rider.state == WAITING && rider.lastStation() == s) {
                found++;
            }
        }
        return found;
    }

    private int horsesAt(int s) {
        int found = 0;
        for (Horse horse : horses) {
            if (horse != null && horse.station == s) {
                found++;
            }
        }
        return found;
    }

    private Horse strongestAt(int s) {
        Horse strongest = null;
        for (Horse horse : horses) {
            if (horse != null && horse.station == s
                    && (strongest == null || horse.strength > strongest.strength)) {
                strongest = horse;
            }
        }
        return strongest;
    }

    private void careForHorses() {
        for (Horse horse : horses) {
            if (horse != null && isStation(horse.station)) {
                careFor(horse, horse.station);
            }
        }
    }

    private void careFor(Horse horse, int s) {
        if (fodderAt[s] > 0) {
            fodderAt[s]--;
            horse.strength = Math.min(STRENGTH_LIMIT, horse.strength + law.rest());
        } else {
            horse.weaken(law.hunger());
        }
    }

    private void lineUpWaiting() {
        lineLength = 0;
        for (Rider rider : riders) {
            if (rider != null && rider.state == WAITING) {
                putInLine(rider);
            }
        }
    }

    /** Riders come here by number, so that like ones stay in that order. */
    private void putInLine(Rider rider) {
        if (lineLength >= RIDER_LIMIT) {
            return;
        }
        int place = lineLength;
        while (place > 0 && goesBefore(rider, line[place - 1])) {
            line[place] = line[place - 1];
            place--;
        }
        line[place] = rider;
        lineLength++;
    }

    private static boolean goesBefore(Rider one, Rider other) {
        if (one == null || other == null) {
            return false;
        }
        if (one.lastStation() != other.lastStation()) {
            return one.lastStation() < other.lastStation();
        }
        if (one.rank != other.rank) {
            return one.rank < other.rank;
        }
        return one.came < other.came;
    }

    private void sendLine() {
        for (int i = 0; i < lineLength && i < RIDER_LIMIT; i++) {
            Rider rider = line[i];
            if (rider != null) {
                send(rider);
            }
        }
    }

    private void send(Rider rider) {
        int from = rider.lastStation();
        if (voided(rider.tablet, from) != NONE) {
            rider.state = STOPPED;
            return;
        }
        int time = roads.timeBetween(from, rider.nextStation());
        Horse horse = strongestAt(from);
        if (time == NONE || horse == null || horsesAt(from) <= law.keepFor(rider.rank)
                || horse.strength < law.tire() * time) {
            return;
        }
        horse.station = NONE;
        rider.leaveOn(horse, hour, time);
    }

    private void bringComers() {
        for (Rider rider : riders) {
            if (rider != null && rider.horse != null && rider.left + rider.time <= hour) {
                bring(rider, rider.horse);
            }
        }
    }

    private void bring(Rider rider, Horse horse) {
        int to = rider.nextStation();
        horse.weaken(law.tire() * rider.time);
        horse.station = to;
        rider.horse = null;
        if (rider.state == ON_ROAD) {
            carryVoids(rider.lastStation(), to, rider.left);
            rider.comeToNextStation(hour);
        }
    }

    private void carryVoids(int from, int to, int left) {
        for (Tablet tablet : tablets) {
            if (tablet != null && tablet.wasVoid(from, left)) {
                tablet.tellVoid(to, hour);
            }
        }
    }

    private static final class Tape {
        private final int[] bytes = new int[TAPE_LIMIT];
        private int length;

        boolean hasRoomFor(int more) {
            return length + more <= TAPE_LIMIT;
        }

        void addNumber(int number) {
            for (int shift = 24; shift >= 0; shift -= 8) {
                if (length >= 0 && length < TAPE_LIMIT) {
                    bytes[length] = (number >>> shift) & 255;
                    length++;
                }
            }
        }

        int byteAt(int place) {
            return place >= 0 && place < length && place < TAPE_LIMIT ? bytes[place] : NONE;
        }
    }

    /** What each rule tells, by the rule's number: tire, rest, hunger, then keep for each rank. */
    private static final class Statutes {
        private static final int TIRE = 0;
        private static final int REST = 1;
        private static final int HUNGER = 2;
        private static final int KEEP = 3;
        private static final int RULES = KEEP + RANKS;

        private final int[] numbers = {2, 3, 1, 0, 0, 0};

        int tire() {
            return numbers[TIRE];
        }

        int rest() {
            return numbers[REST];
        }

        int hunger() {
            return numbers[HUNGER];
        }

        int keepFor(int rank) {
            return rank >= 1 && rank <= RANKS ? numbers[KEEP + rank - 1] : 0;
        }

        void tell(int rule, int number) {
            if (rule >= 0 && rule < RULES) {
                numbers[rule] = number;
            }
        }

        static int leastFor(int rule) {
            return rule == TIRE ? 1 : 0;
        }

        static int mostFor(int rule) {
            if (rule == TIRE) {
                return 9;
            }
            return rule < KEEP ? 50 : 20;
        }
    }

    /** Reads a text token by token and stops at the first that is at fault. */
    private static final class StatuteReader {
        private static final int END = 0;
        private static final int WORD = 1;
        private static final int NUMBER = 2;
        private static final int SEMICOLON = 3;
        private static final int NO_TOKEN = 4;

        private static final int FAULT_NO_TOKEN = 1;
        private static final int FAULT_CANNOT_COME = 2;
        private static final int FAULT_NUMBER = 3;
        private static final int FAULT_TWICE = 4;

        private final Tape tape;
        private final Statutes told = new Statutes();
        private final boolean[] isTold = new boolean[Statutes.RULES];
        private int ruleCount;
        private int faultKind;
        private int faultPlace;
        private int place;
        private int token;
        private int tokenPlace;
        private int value;

        StatuteReader(Tape tape) {
            this.tape = tape;
        }

        /** Each rule comes once at most, so one round more than there are rules meets the end or a fault. */
        void readText() {
            readToken();
            for (int round = 0; round <= Statutes.RULES; round++) {
                if (token == END || !readRule()) {
                    return;
                }
                ruleCount++;
            }
        }

        private boolean readRule() {
            int rule = ruleOfWord();
            if (rule == NONE) {
                return stopAtToken(FAULT_CANNOT_COME);
            }
            if (rule == Statutes.KEEP) {
                readToken();
                if (!isNumberWithin(1, RANKS)) {
                    return false;
                }
                rule = Statutes.KEEP + value - 1;
            }
            return isFirstOf(rule) && readNumberOf(rule) && readSemicolon();
        }

        private int ruleOfWord() {
            if (isWord("tire")) {
                return Statutes.TIRE;
            }
            if (isWord("rest")) {
                return Statutes.REST;
            }
            if (isWord("hunger")) {
                return Statutes.HUNGER;
            }
            return isWord("keep") ? Statutes.KEEP : NONE;
        }

        private boolean isFirstOf(int rule) {
            if (rule < 0 || rule >= Statutes.RULES || isTold[rule]) {
                return stopAtToken(FAULT_TWICE);
            }
            isTold[rule] = true;
            return true;
        }

        private boolean readNumberOf(int rule) {
            readToken();
            if (!isNumberWithin(Statutes.leastFor(rule), Statutes.mostFor(rule))) {
                return false;
            }
            told.tell(rule, value);
            return true;
        }

        private boolean readSemicolon() {
            readToken();
            if (token != SEMICOLON) {
                return stopAtToken(FAULT_CANNOT_COME);
            }
            readToken();
            return true;
        }

        private boolean isNumberWithin(int least, int most) {
            if (token != NUMBER) {
                return stopAtToken(FAULT_CANNOT_COME);
            }
            if (value < least || value > most) {
                return stopAtToken(FAULT_NUMBER);
            }
            return true;
        }

        private boolean stopAtToken(int kind) {
            faultKind = token == NO_TOKEN ? FAULT_NO_TOKEN : kind;
            faultPlace = tokenPlace;
            return false;
        }

        private void readToken() {
            while (place < tape.length && isBlank(tape.byteAt(place))) {
                place++;
            }
            tokenPlace = place;
            if (place >= tape.length) {
                token = END;
            } else if (tape.byteAt(place) == ';') {
                token = SEMICOLON;
                place++;
            } else {
                readWordOrNumber();
            }
        }

        private void readWordOrNumber() {
            int smalls = 0;
            int digits = 0;
            value = 0;
            while (place < tape.length && isLetterOrDigit(tape.byteAt(place))) {
                int sign = tape.byteAt(place);
                if (isSmallLetter(sign)) {
                    smalls++;
                } else if (isDigit(sign)) {
                    digits++;
                    value = digits <= 3 ? value * 10 + sign - '0' : 0;
                }
                place++;
            }
            int length = place - tokenPlace;
            if (length > 0 && smalls == length) {
                token = WORD;
            } else if (length > 0 && length <= 3 && digits == length) {
                token = NUMBER;
            } else {
                token = NO_TOKEN;
            }
        }

        private boolean isWord(String word) {
            if (token != WORD || place - tokenPlace != word.length()) {
                return false;
            }
            for (int i = 0; i < word.length(); i++) {
                if (tape.byteAt(tokenPlace + i) != word.charAt(i)) {
                    return false;
                }
            }
            return true;
        }

        private static boolean isBlank(int sign) {
            return sign == 32 || sign == 10;
        }

        private static boolean isSmallLetter(int sign) {
            return sign >= 'a' && sign <= 'z';
        }

        private static boolean isDigit(int sign) {
            return sign >= '0' && sign <= '9';
        }

        /** Capitals go on a word, too: such a word is not as told, and so no token as a whole. */
        private static boolean isLetterOrDigit(int sign) {
            return sign >= 'a' && sign <= 'z' || sign >= 'A' && sign <= 'Z' || sign >= '0' && sign <= '9';
        }
    }

    private static final class Roads {
        private final int[][] hoursOf = new int[STATIONS][STATIONS];
        private final int[][] snowOn = new int[STATIONS][STATIONS];
        private final int[] toGoal = new int[STATIONS];
        private final boolean[] settled = new boolean[STATIONS];
        private final int[] row = new int[STATIONS];

        void lay(int u, int v, int hours) {
            if (isStation(u) && isStation(v)) {
                hoursOf[u][v] = hours;
                hoursOf[v][u] = hours;
                setSnow(u, v, 0);
            }
        }

        void setSnow(int u, int v, int more) {
            if (isStation(u) && isStation(v)) {
                snowOn[u][v] = more;
                snowOn[v][u] = more;
            }
        }

        /** Hours and snow of the road between two stations; NONE without one. */
        int timeBetween(int u, int v) {
            if (!isStation(u) || !isStation(v) || hoursOf[u][v] == 0) {
                return NONE;
            }
            return hoursOf[u][v] + snowOn[u][v];
        }

        int leastTime(int u, int v) {
            if (!isStation(u) || !isStation(v)) {
                return NONE;
            }
            measureTo(v);
            return toGoal[u] < UNREACHED ? toGoal[u] : NONE;
        }

        /** The stations of the way; null without one. */
        int[] findWay(int u, int v) {
            if (leastTime(u, v) == NONE) {
                return null;
            }
            int length = 0;
            int here = u;
            while (length < STATIONS - 1 && here != v) {
                row[length] = here;
                length++;
                here = stepFrom(here);
            }
            row[length] = here;
            return Arrays.copyOf(row, length + 1);
        }

        /** The least station by which a least way to the goal goes on; the same one if there is none. */
        private int stepFrom(int u) {
            if (isStation(u)) {
                for (int v = 0; v < STATIONS; v++) {
                    int time = timeBetween(u, v);
                    if (time != NONE && toGoal[v] + time == toGoal[u]) {
                        return v;
                    }
                }
            }
            return u;
        }

        private void measureTo(int goal) {
            for (int s = 0; s < STATIONS; s++) {
                toGoal[s] = s == goal ? 0 : UNREACHED;
                settled[s] = false;
            }
            for (int round = 0; round < STATIONS; round++) {
                int nearest = nearestUnsettled();
                if (nearest == NONE) {
                    return;
                }
                settle(nearest);
            }
        }

        private int nearestUnsettled() {
            int nearest = NONE;
            int least = UNREACHED;
            for (int s = 0; s < STATIONS; s++) {
                if (!settled[s] && toGoal[s] < least) {
                    nearest = s;
                    least = toGoal[s];
                }
            }
            return nearest;
        }

        private void settle(int u) {
            if (!isStation(u)) {
                return;
            }
            settled[u] = true;
            for (int v = 0; v < STATIONS; v++) {
                int time = timeBetween(u, v);
                if (time != NONE && toGoal[u] + time < toGoal[v]) {
                    toGoal[v] = toGoal[u] + time;
                }
            }
        }
    }

    /**
     * Leads horses, some at a time, by the path of least pains from a station that has some to spare to one
     * that is short of them. A path may turn back horses that were led before, which takes their pains away
     * again: so all the pains together are the least for as many horses as have been led.
     */
    private static final class Leader {
        private final int[] spare = new int[STATIONS];
        private final int[][] led = new int[STATIONS][STATIONS];
        private final int[] pains = new int[STATIONS];
        private final int[] from = new int[STATIONS];

        /** How many horses station s has beyond what it wants; below 0: how many it is short of. */
        void setSpare(int s, int horses) {
            if (isStation(s)) {
                spare[s] = horses;
            }
        }

        /** Each round leads a horse at least, so there are no more rounds than horses. */
        int leastPains(Roads roads) {
            for (int s = 0; s < STATIONS; s++) {
                Arrays.fill(led[s], 0);
            }
            int total = 0;
            for (int round = 0; round <= HORSE_LIMIT && isAnyShort(); round++) {
                spread(roads);
                int goal = nearestShort();
                if (!isStation(goal)) {
                    return TOO_FEW;
                }
                int horses = horsesAlong(goal);
                total += horses * pains[goal];
                leadAlong(goal, horses);
            }
            return total;
        }

        private boolean isAnyShort() {
            for (int s = 0; s < STATIONS; s++) {
                if (spare[s] < 0) {
                    return true;
                }
            }
            return false;
        }

        private void spread(Roads roads) {
            for (int s = 0; s < STATIONS; s++) {
                pains[s] = spare[s] > 0 ? 0 : UNREACHED;
                from[s] = NONE;
            }
            boolean changed = true;
            for (int round = 0; round < STATIONS && changed; round++) {
                changed = false;
                for (int u = 0; u < STATIONS; u++) {
                    if (pains[u] < UNREACHED && spreadFrom(u, roads)) {
                        changed = true;
                    }
                }
            }
        }

        private boolean spreadFrom(int u, Roads roads) {
            boolean changed = false;
            for (int v = 0; v < STATIONS && isStation(u); v++) {
                int time = roads.timeBetween(u, v);
                if (time != NONE && pains[u] + painsOver(u, v, time) < pains[v]) {
                    pains[v] = pains[u] + painsOver(u, v, time);
                    from[v] = u;
                    changed = true;
                }
            }
            return changed;
        }

        private int painsOver(int u, int v, int time) {
            return isStation(u) && isStation(v) && led[v][u] > 0 ? -time : time;
        }

        private int nearestShort() {
            int nearest = NONE;
            int least = UNREACHED;
            for (int s = 0; s < STATIONS; s++) {
                if (spare[s] < 0 && pains[s] < least) {
                    nearest = s;
                    least = pains[s];
                }
            }
            return nearest;
        }

        private int horsesAlong(int goal) {
            if (!isStation(goal)) {
                return 0;
            }
            int horses = -spare[goal];
            int v = goal;
            for (int step = 0; step < STATIONS && isStation(from[v]); step++) {
                int u = from[v];
                if (led[v][u] > 0) {
                    horses = Math.min(horses, led[v][u]);
                }
                v = u;
            }
            return Math.min(horses, spare[v]);
        }

        private void leadAlong(int goal, int horses) {
            if (!isStation(goal)) {
                return;
            }
            spare[goal] += horses;
            int v = goal;
            for (int step = 0; step < STATIONS && isStation(from[v]); step++) {
                int u = from[v];
                if (led[v][u] > 0) {
                    led[v][u] -= horses;
                } else {
                    led[u][v] += horses;
                }
                v = u;
            }
            spare[v] -= horses;
        }
    }

    private static final class Horse {
        private final int number;
        private int station;
        private int strength;

        Horse(int number, int station, int strength) {
            this.number = number;
            this.station = station;
            this.strength = strength;
        }

        void weaken(int less) {
            strength = Math.max(0, strength - less);
        }
    }

    private static final class Tablet {
        private final int rank;
        private final int[] since = new int[STATIONS];

        Tablet(int rank) {
            this.rank = rank;
            Arrays.fill(since, NONE);
        }

        int voidSince(int s) {
            return isStation(s) ? since[s] : NONE;
        }

        boolean wasVoid(int s, int inHour) {
            int first = voidSince(s);
            return first != NONE && first <= inHour;
        }

        /** Whether it is news at station s that the tablet is void. */
        boolean tellVoid(int s, int inHour) {
            if (!isStation(s) || since[s] != NONE) {
                return false;
            }
            since[s] = inHour;
            return true;
        }
    }

    private static final class Rider {
        private final int tablet;
        private final int rank;
        private final int[] stations;
        private final int[] newsSince = new int[STATIONS];
        private int state = WAITING;
        private int reached;
        private int came;
        /** Stays until the horse has come, though the rider may be dead by then. */
        private Horse horse;
        private int left;
        private int time;

        Rider(int tablet, int rank, int[] stations) {
            this.tablet = tablet;
            this.rank = rank;
            this.stations = stations;
            Arrays.fill(newsSince, NONE);
        }

        boolean isUnderWay() {
            return state == WAITING || state == ON_ROAD;
        }

        int stationOfWay(int k) {
            return k >= 0 && k < stations.length ? stations[k] : NONE;
        }

        int lastStation() {
            return stationOfWay(reached - 1);
        }

        int nextStation() {
            return stationOfWay(reached);
        }

        int newsKnownSince(int s) {
            return isStation(s) ? newsSince[s] : NONE;
        }

        int horseRidden() {
            return state == ON_ROAD && horse != null ? horse.number : NONE;
        }

        void leaveOn(Horse taken, int inHour, int roadTime) {
            horse = taken;
            left = inHour;
            time = roadTime;
            state = ON_ROAD;
        }

        /** The first station of the way is come to when one begins. */
        void comeToNextStation(int inHour) {
            int station = nextStation();
            if (!isStation(station)) {
                return;
            }
            newsSince[station] = inHour;
            came = inHour;
            reached++;
            state = reached < stations.length ? WAITING : THERE;
        }
    }
}
