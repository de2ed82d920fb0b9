import java.util.Arrays;
import java.util.NoSuchElementException;

public final class DustParish {
    public static final int NONE = -1;

    private static final int TAPE = 700;
    private static final int ROOMS = 9;
    private static final int OWNERS = 6;
    private static final int DOORS = 14;
    private static final int WINDS = 5;
    private static final int BLOWS = 8;
    private static final int NUMBERS = 10;
    private static final int CALM = 5;
    private static final int CHAPEL = 1;
    private static final int ATTIC = 2;
    private static final int MOST = 9999;
    private static final int ACTS = 40;
    private static final int SIGHTS = 8;
    private static final int AHEAD = 99;
    private static final int LAST_DAY = 999;
    private static final int EVERY_MOST = 30;
    private static final int DEACONS = 4;
    private static final int GRAIN = 10000;
    private static final int ROWS_OF_WINDS = 120;

    private static final int BAD_TEXTS = 0;
    private static final int BAD_ACTS = 1;
    private static final int BAD_SIGHTS = 2;

    private final byte[] tape = new byte[TAPE];
    private int tapeLength = 0;
    private int faultPlace = NONE;
    private Facts facts = new Facts();
    // A text with a fault must leave all as it was, so it is read into this one.
    private Facts spareFacts = new Facts();
    private final Reader reader = new Reader(tape, spareFacts);
    private final Present now = new Present();
    private final Present kept = new Present();
    private boolean hasImage = false;
    private final State trial = new State();
    private final int[] windRow = new int[WINDS];
    private final int[] bestRow = new int[WINDS];
    private final int[] grains = new int[ROOMS];
    private final int[] loads = new int[DEACONS];
    private final int[] walks = new int[(1 << ROOMS) * ROOMS];

    public DustParish() {
        facts.clear();
    }

    // ---- the tape and the text ----

    public int feed(int a, int b, int c, int d, int e) {
        if (tapeLength + 20 > TAPE) {
            return NONE;
        }
        append(a);
        append(b);
        append(c);
        append(d);
        append(e);
        return tapeLength;
    }

    private void append(int four) {
        for (int shift = 24; shift >= 0 && tapeLength < TAPE; shift -= 8) {
            tape[tapeLength] = (byte) (four >> shift);
            tapeLength++;
        }
    }

    public int parish(int n) throws IllegalArgumentException {
        if (n < 0 || n > tapeLength) {
            throw new IllegalArgumentException();
        }
        tapeLength = 0;
        int fault = reader.read(n, spareFacts);
        if (fault != 0) {
            faultPlace = reader.place();
            now.refused[BAD_TEXTS]++;
            return fault;
        }
        faultPlace = NONE;
        Facts old = facts;
        facts = spareFacts;
        spareFacts = old;
        facts.measure();
        now.begin(facts);
        hasImage = false;
        return 0;
    }

    public int fault() {
        return faultPlace;
    }

    // ---- what there is ----

    public int count(int what) throws NoSuchElementException {
        switch (what) {
            case 0: return facts.rooms;
            case 1: return facts.doors;
            case 2: return facts.winds;
            case 3: return facts.numbers;
            case 4: return facts.every;
            case 5: return facts.clean;
            case 6: return now.state.day;
            case 7: return Course.dustInAll(facts, now.state);
            case 8: return now.state.taken;
            case 9: return now.state.stolen;
            case 10: return Course.heretics(facts, now.state);
            case 11: return now.acts.many;
            case 12: return now.sights.many;
            case 13: return tapeLength;
            case 14: return now.refused[BAD_TEXTS];
            case 15: return now.refused[BAD_ACTS];
            case 16: return now.refused[BAD_SIGHTS];
            default: throw new NoSuchElementException();
        }
    }

    public int room(int room, int what) throws NoSuchElementException {
        needRoom(room);
        switch (what) {
            case 0: return facts.kind[room];
            case 1: return facts.owner[room];
            case 2: return now.state.dust[room];
            case 3: return facts.settles[room];
            case 4: return now.state.brought[room];
            case 5: return Course.titheOf(facts, now.state, room);
            case 6: return facts.doorsOf(room);
            default: throw new NoSuchElementException();
        }
    }

    public int far(int room, int other) throws NoSuchElementException {
        needRoom(room);
        needRoom(other);
        return facts.wayFrom(room, other);
    }

    public int near(int room, int steps) throws NoSuchElementException {
        needRoom(room);
        int bits = 0;
        for (int other = 0; other < facts.rooms; other++) {
            int way = facts.wayFrom(room, other);
            if (way != NONE && way <= steps) {
                bits |= 1 << other;
            }
        }
        return bits;
    }

    public int blow(int wind, int i, int what) throws NoSuchElementException {
        if (wind < 0 || wind >= facts.winds || what < 0 || what > 2) {
            throw new NoSuchElementException();
        }
        if (i == NONE) {
            return facts.blows[wind];
        }
        if (i < 0 || i >= facts.blows[wind]) {
            throw new NoSuchElementException();
        }
        int at = wind * BLOWS + i;
        return what == 0 ? facts.blowFrom[at] : what == 1 ? facts.blowTo[at] : facts.tenths[at];
    }

    public int wind(int day) throws IllegalArgumentException {
        if (day < 0 || day > 9999) {
            throw new IllegalArgumentException();
        }
        return Course.windOf(facts, now.state, day);
    }

    // ---- acts ----

    public int days(int many) {
        if (many < 1 || many > 30 || now.state.day + many > LAST_DAY) {
            return refuse(BAD_ACTS);
        }
        now.acts.remember(now.state);
        Course.passMany(facts, now.state, many);
        return now.state.day;
    }

    public int sweep(int room, int to, int much) throws NoSuchElementException {
        needRoom(room);
        needRoom(to);
        if (!facts.hasDoor(room, to) || much < 1 || much > 999 || much > now.state.dust[room]) {
            return refuse(BAD_ACTS);
        }
        now.acts.remember(now.state);
        now.state.bring(room, to, much);
        return now.state.dust[room];
    }

    public int shake(int room, int to) throws NoSuchElementException {
        needRoom(room);
        needRoom(to);
        if (!facts.hasDoor(room, to)) {
            return refuse(BAD_ACTS);
        }
        now.acts.remember(now.state);
        int half = now.state.dust[room] / 2;
        now.state.bring(room, to, half);
        return half;
    }

    public int sneeze(int room, int much) throws NoSuchElementException {
        needRoom(room);
        if (much < 1 || much > 99) {
            return refuse(BAD_ACTS);
        }
        now.acts.remember(now.state);
        return now.state.steal(room, much);
    }

    public int plan(int i, int wind) {
        boolean known = wind == CALM || (wind >= 0 && wind < facts.winds);
        if (!known || i < 0 || i >= facts.numbers) {
            return refuse(BAD_ACTS);
        }
        now.acts.remember(now.state);
        int before = now.state.calendar[i];
        now.state.calendar[i] = wind;
        return before;
    }

    public int undo() {
        if (now.acts.many == 0) {
            return NONE;
        }
        now.acts.giveBack(now.state);
        return now.acts.many;
    }

    // ---- if only days go by ----

    public int then(int room, int days) throws NoSuchElementException, IllegalArgumentException {
        needRoom(room);
        needAhead(days);
        tryDays(days);
        return trial.dust[room];
    }

    public int taken(int days) throws IllegalArgumentException {
        needAhead(days);
        tryDays(days);
        return trial.taken - now.state.taken;
    }

    public int thick(int room, int much) throws NoSuchElementException, IllegalArgumentException {
        needRoom(room);
        if (much < 0 || much > MOST) {
            throw new IllegalArgumentException();
        }
        trial.copy(now.state);
        for (int days = 0; days <= AHEAD; days++) {
            if (trial.dust[room] >= much) {
                return days;
            }
            Course.passMany(facts, trial, 1);
        }
        return NONE;
    }

    public int heresy() {
        trial.copy(now.state);
        for (int days = 0; days <= AHEAD; days++) {
            if (Course.heretics(facts, trial) != 0) {
                return days;
            }
            Course.passMany(facts, trial, 1);
        }
        return NONE;
    }

    public int poorest(int days) throws IllegalArgumentException {
        needAhead(days);
        tryDays(days);
        int best = NONE;
        for (int room = 0; room < facts.rooms; room++) {
            if (best == NONE || trial.dust[room] < trial.dust[best]) {
                best = room;
            }
        }
        return best;
    }

    public int fullest(int days) throws IllegalArgumentException {
        needAhead(days);
        trial.copy(now.state);
        int best = 0;
        int most = Course.dustInAll(facts, trial);
        for (int day = 1; day <= days; day++) {
            Course.passMany(facts, trial, 1);
            int much = Course.dustInAll(facts, trial);
            if (much > most) {
                most = much;
                best = day;
            }
        }
        return best;
    }

    public int change(int days) throws IllegalArgumentException {
        needAhead(days);
        tryDays(days);
        int most = trial.taken;
        int best = NONE;
        for (int one = 0; one < facts.numbers; one++) {
            for (int other = one + 1; other < facts.numbers; other++) {
                tryChange(one, other, days);
                if (trial.taken > most) {
                    most = trial.taken;
                    best = 10 * one + other;
                }
            }
        }
        return best;
    }

    private void tryChange(int one, int other, int days) {
        trial.copy(now.state);
        int number = trial.calendar[one];
        if (number != trial.calendar[other]) {
            trial.calendar[one] = trial.calendar[other];
            trial.calendar[other] = number;
            Course.passMany(facts, trial, days);
        }
    }

    public int often(int days) throws IllegalArgumentException {
        needAhead(days);
        int best = 1;
        int most = NONE;
        for (int every = 1; every <= EVERY_MOST; every++) {
            trial.copy(now.state);
            for (int day = 0; day < days; day++) {
                Course.pass(facts, trial, Course.windOf(facts, trial, trial.day), every);
            }
            if (trial.taken > most) {
                most = trial.taken;
                best = every;
            }
        }
        return best;
    }

    public int lost(int days) throws IllegalArgumentException {
        needAhead(days);
        tryDays(days);
        int settled = 0;
        for (int room = 0; room < facts.rooms; room++) {
            settled += facts.comesTo(room) * days;
        }
        int more = Course.dustInAll(facts, trial) - Course.dustInAll(facts, now.state);
        return settled - more - (trial.taken - now.state.taken);
    }

    // ---- what would be best ----

    public int order(int room, int i) throws NoSuchElementException {
        needRoom(room);
        if (i != NONE && (i < 0 || i >= facts.winds)) {
            throw new NoSuchElementException();
        }
        int most = findOrder(room);
        return i == NONE ? most : bestRow[i];
    }

    private int findOrder(int room) {
        int winds = facts.winds;
        for (int i = 0; i < winds; i++) {
            windRow[i] = i;
        }
        int most = NONE;
        for (int row = 0; row < ROWS_OF_WINDS; row++) {
            trial.copy(now.state);
            for (int i = 0; i < winds; i++) {
                Course.pass(facts, trial, windRow[i], facts.every);
            }
            if (trial.dust[room] > most) {
                most = trial.dust[room];
                System.arraycopy(windRow, 0, bestRow, 0, WINDS);
            }
            if (!nextRow(windRow, winds)) {
                break;
            }
        }
        return most;
    }

    // Rows come in the order of their numbers, so that the first best one is met first.
    private static boolean nextRow(int[] row, int many) {
        int rise = many - 2;
        while (rise >= 0 && row[rise] > row[rise + 1]) {
            rise--;
        }
        if (rise < 0) {
            return false;
        }
        int next = many - 1;
        while (next > rise && row[next] < row[rise]) {
            next--;
        }
        swap(row, rise, next);
        for (int low = rise + 1, high = many - 1; low < high; low++, high--) {
            swap(row, low, high);
        }
        return true;
    }

    private static void swap(int[] row, int one, int other) {
        int held = row[one];
        row[one] = row[other];
        row[other] = held;
    }

    public int alms() {
        int sum = 0;
        for (int room = 0; room < facts.rooms; room++) {
            if (Course.isUnclean(facts, now.state, room)) {
                sum += facts.clean - now.state.dust[room];
            }
        }
        return sum;
    }

    public int round(int room, int rooms) throws NoSuchElementException, IllegalArgumentException {
        needRoom(room);
        if ((rooms >>> facts.rooms) != 0) {
            throw new IllegalArgumentException();
        }
        int goal = rooms & ~(1 << room);
        if (goal == 0) {
            return 0;
        }
        walkAll(room, goal);
        int best = NONE;
        for (int last = 0; last < facts.rooms; last++) {
            best = shorter(best, walks[goal * ROOMS + last]);
        }
        return best;
    }

    // walks[set * ROOMS + last]: the shortest way through a set of rooms that ends in the last.
    private void walkAll(int start, int goal) {
        Arrays.fill(walks, NONE);
        for (int set = 1; set <= goal; set++) {
            if ((set & ~goal) != 0) {
                continue;
            }
            for (int last = 0; last < facts.rooms; last++) {
                if ((set & 1 << last) != 0) {
                    walks[set * ROOMS + last] = walkTo(start, set & ~(1 << last), last);
                }
            }
        }
    }

    private int walkTo(int start, int rest, int last) {
        if (rest == 0) {
            return facts.wayFrom(start, last);
        }
        int best = NONE;
        for (int before = 0; before < facts.rooms; before++) {
            int walk = walks[rest * ROOMS + before];
            int way = facts.wayFrom(before, last);
            if (walk != NONE && way != NONE) {
                best = shorter(best, walk + way);
            }
        }
        return best;
    }

    private static int shorter(int one, int other) {
        if (one == NONE || other == NONE) {
            return one == NONE ? other : one;
        }
        return Math.min(one, other);
    }

    public int shares(int deacons) throws IllegalArgumentException {
        if (deacons < 1 || deacons > DEACONS) {
            throw new IllegalArgumentException();
        }
        Arrays.fill(loads, 0);
        return evenest(0, deacons, Course.dustInAll(facts, now.state) + 1);
    }

    // The rooms from this one on are given away; answers best, or less if there is less.
    private int evenest(int room, int deacons, int best) {
        if (room >= facts.rooms) {
            int most = 0;
            for (int deacon = 0; deacon < deacons; deacon++) {
                most = Math.max(most, loads[deacon]);
            }
            return Math.min(best, most);
        }
        int dust = now.state.dust[room];
        int least = best;
        for (int deacon = 0; deacon < deacons; deacon++) {
            if (loads[deacon] + dust < least) {
                loads[deacon] += dust;
                least = evenest(room + 1, deacons, least);
                loads[deacon] -= dust;
            }
            // Deacons without a load are alike: one of them is enough.
            if (loads[deacon] == 0) {
                break;
            }
        }
        return least;
    }

    public int from(int room, int other, int days) throws NoSuchElementException, IllegalArgumentException {
        needRoom(room);
        needRoom(other);
        if (days < 0 || days > 9) {
            throw new IllegalArgumentException();
        }
        Arrays.fill(grains, 0);
        grains[room] = GRAIN;
        for (int day = 0; day < days; day++) {
            carryGrains(Course.windOf(facts, now.state, now.state.day + day));
        }
        return grains[other];
    }

    private void carryGrains(int wind) {
        if (wind < 0 || wind >= facts.winds) {
            return;
        }
        for (int i = 0; i < facts.blows[wind]; i++) {
            int at = wind * BLOWS + i;
            int part = grains[facts.blowFrom[at]] * facts.tenths[at] / 10;
            grains[facts.blowFrom[at]] -= part;
            grains[facts.blowTo[at]] += facts.arrives(facts.blowTo[at], part);
        }
    }

    public int lend(int room) throws NoSuchElementException {
        needRoom(room);
        int lack = facts.clean - now.state.dust[room];
        if (lack <= 0) {
            return NONE;
        }
        for (int other = 0; other < facts.rooms; other++) {
            if (facts.hasDoor(room, other) && now.state.dust[other] - lack >= facts.clean) {
                return other;
            }
        }
        return NONE;
    }

    public int riches(int owner) throws NoSuchElementException {
        if (owner < 0 || owner >= OWNERS) {
            throw new NoSuchElementException();
        }
        int sum = 0;
        for (int room = 0; room < facts.rooms; room++) {
            if (facts.owner[room] == owner) {
                sum += now.state.dust[room];
            }
        }
        return sum;
    }

    // ---- what is seen ----

    public int see(int room, int days, int much) throws NoSuchElementException {
        needRoom(room);
        if (now.sights.many >= SIGHTS || days < 0 || days > 30 || much < 0 || much > MOST) {
            return refuse(BAD_SIGHTS);
        }
        now.sights.add(room, days, much);
        return now.sights.many;
    }

    public int hand(int what) throws NoSuchElementException {
        if (what < 0 || what > 2) {
            throw new NoSuchElementException();
        }
        if (what == 2) {
            return wouldBeSo(0, 0) ? 1 : 0;
        }
        int many = 0;
        for (int room = 0; room < facts.rooms; room++) {
            int most = Math.min(99, now.state.dust[room]);
            for (int much = 1; much <= most; much++) {
                if (!wouldBeSo(room, much)) {
                    continue;
                }
                if (what == 1) {
                    return 100 * room + much;
                }
                many++;
            }
        }
        return what == 0 ? many : NONE;
    }

    private boolean wouldBeSo(int room, int less) {
        trial.copy(now.state);
        trial.dust[room] -= less;
        int last = now.sights.lastDay();
        for (int day = 0; day <= last; day++) {
            if (!now.sights.areSo(day, trial)) {
                return false;
            }
            if (day < last) {
                Course.passMany(facts, trial, 1);
            }
        }
        return true;
    }

    public void forget() {
        now.sights.many = 0;
    }

    // ---- the game and the years ----

    public int game(int one, int other, int what) throws NoSuchElementException, IllegalArgumentException {
        if (what < 0 || what > 1) {
            throw new NoSuchElementException();
        }
        if (one < 0 || one >= OWNERS || other < 0 || other >= OWNERS || one == other) {
            throw new IllegalArgumentException();
        }
        int mine = lowestRoom(one);
        int his = lowestRoom(other);
        int many = 0;
        int first = NONE;
        for (int couple = 0; couple < 4 && mine != NONE && his != NONE; couple++) {
            if (rests(now.state.dust[mine], now.state.dust[his], couple >> 1, couple & 1)) {
                many++;
                if (first == NONE) {
                    first = 10 * (couple >> 1) + (couple & 1);
                }
            }
        }
        return what == 0 ? many : first;
    }

    private int lowestRoom(int owner) {
        for (int room = 0; room < facts.rooms; room++) {
            if (facts.owner[room] == owner) {
                return room;
            }
        }
        return NONE;
    }

    private boolean rests(int mine, int his, int iShake, int heShakes) {
        return lossOf(mine, his, iShake, heShakes) <= lossOf(mine, his, 1 - iShake, heShakes)
            && lossOf(his, mine, heShakes, iShake) <= lossOf(his, mine, 1 - heShakes, iShake);
    }

    private int lossOf(int mine, int his, int iShake, int heShakes) {
        int left = Math.min(MOST, mine - iShake * (mine / 2) + heShakes * (his / 2));
        return left / 10 + (left < facts.clean ? 20 : 0);
    }

    public int years(int seed, int n, int what) throws NoSuchElementException, IllegalArgumentException {
        if (what < 0 || what > 2) {
            throw new NoSuchElementException();
        }
        if (n < 0 || n > 60) {
            throw new IllegalArgumentException();
        }
        trial.copy(now.state);
        int drawn = seed;
        int unclean = 0;
        for (int day = 0; day < n; day++) {
            if (facts.rooms > 0) {
                drawn = nextSeed(drawn);
                int room = draw(drawn, facts.rooms);
                drawn = nextSeed(drawn);
                happen(room, draw(drawn, 4));
            }
            Course.passMany(facts, trial, 1);
            unclean += Course.heretics(facts, trial) != 0 ? 1 : 0;
        }
        if (what == 1) {
            return unclean;
        }
        return what == 0 ? trial.taken - now.state.taken : fullestTrialRoom();
    }

    private static int nextSeed(int seed) {
        return seed * 1103515245 + 12345;
    }

    private static int draw(int seed, int many) {
        return many > 0 ? (seed >>> 16 & 32767) % many : 0;
    }

    private void happen(int room, int what) {
        if (what == 0) {
            trial.steal(room, 10);
        }
        if (what == 1) {
            int to = facts.behindFirstDoor(room);
            if (to != NONE) {
                trial.bring(room, to, trial.dust[room] / 2);
            }
        }
    }

    private int fullestTrialRoom() {
        int most = 0;
        for (int room = 0; room < facts.rooms; room++) {
            most = Math.max(most, trial.dust[room]);
        }
        return most;
    }

    // ---- the image ----

    public void image() {
        kept.copy(now);
        hasImage = true;
    }

    public boolean restore() {
        if (hasImage) {
            now.copy(kept);
        }
        return hasImage;
    }

    // ---- what many calls need ----

    private void needRoom(int room) {
        if (room < 0 || room >= facts.rooms) {
            throw new NoSuchElementException();
        }
    }

    private static void needAhead(int days) {
        if (days < 0 || days > AHEAD) {
            throw new IllegalArgumentException();
        }
    }

    private int refuse(int which) {
        now.refused[which]++;
        return NONE;
    }

    private void tryDays(int days) {
        trial.copy(now.state);
        Course.passMany(facts, trial, days);
    }

    // What a text tells; nothing but another text changes it.
    private static final class Facts {
        int rooms;
        final int[] kind = new int[ROOMS];
        final int[] owner = new int[ROOMS];
        final int[] dust = new int[ROOMS];
        final int[] settles = new int[ROOMS];
        int doors;
        private final int[] doorOne = new int[DOORS];
        private final int[] doorOther = new int[DOORS];
        int winds;
        final int[] blows = new int[WINDS];
        final int[] blowFrom = new int[WINDS * BLOWS];
        final int[] blowTo = new int[WINDS * BLOWS];
        final int[] tenths = new int[WINDS * BLOWS];
        int numbers;
        final int[] calendar = new int[NUMBERS];
        int every;
        int clean;
        final Rule rule = new Rule();
        private final int[] ways = new int[ROOMS * ROOMS];
        final int[] houses = new int[OWNERS];

        void clear() {
            rooms = 0;
            doors = 0;
            winds = 0;
            numbers = 0;
            every = 7;
            clean = 10;
            rule.clear();
            Arrays.fill(ways, NONE);
        }

        void addDoor(int one, int other, int steps) {
            if (doors < DOORS) {
                doorOne[doors] = one;
                doorOther[doors] = other;
                ways[one * ROOMS + other] = steps;
                ways[other * ROOMS + one] = steps;
                doors++;
            }
        }

        // What follows from what is told, kept because it is asked for often.
        void measure() {
            Arrays.fill(houses, 0);
            for (int room = 0; room < rooms; room++) {
                houses[owner[room]]++;
            }
            for (int room = 0; room < rooms; room++) {
                ways[room * ROOMS + room] = 0;
            }
            for (int middle = 0; middle < rooms; middle++) {
                shortenBy(middle);
            }
        }

        private void shortenBy(int middle) {
            for (int one = 0; one < rooms; one++) {
                for (int other = 0; other < rooms; other++) {
                    int first = ways[one * ROOMS + middle];
                    int second = ways[middle * ROOMS + other];
                    if (first != NONE && second != NONE) {
                        int at = one * ROOMS + other;
                        ways[at] = shorter(ways[at], first + second);
                    }
                }
            }
        }

        int wayFrom(int one, int other) {
            return ways[one * ROOMS + other];
        }

        boolean hasDoor(int one, int other) {
            for (int door = 0; door < doors; door++) {
                if (behind(door, one) == other) {
                    return true;
                }
            }
            return false;
        }

        int doorsOf(int room) {
            int many = 0;
            for (int door = 0; door < doors; door++) {
                many += behind(door, room) != NONE ? 1 : 0;
            }
            return many;
        }

        int behindFirstDoor(int room) {
            for (int door = 0; door < doors; door++) {
                if (behind(door, room) != NONE) {
                    return behind(door, room);
                }
            }
            return NONE;
        }

        private int behind(int door, int room) {
            if (doorOne[door] == room) {
                return doorOther[door];
            }
            return doorOther[door] == room ? doorOne[door] : NONE;
        }

        int comesTo(int room) {
            return kind[room] == ATTIC ? 2 * settles[room] : settles[room];
        }

        int arrives(int room, int much) {
            return kind[room] == CHAPEL ? much / 2 : much;
        }
    }

    // What days and acts change, and what is undone.
    private static final class State {
        int day;
        int taken;
        int stolen;
        final int[] dust = new int[ROOMS];
        final int[] brought = new int[ROOMS];
        final int[] calendar = new int[NUMBERS];

        void begin(Facts facts) {
            day = 0;
            taken = 0;
            stolen = 0;
            System.arraycopy(facts.dust, 0, dust, 0, ROOMS);
            Arrays.fill(brought, 0);
            System.arraycopy(facts.calendar, 0, calendar, 0, NUMBERS);
        }

        void copy(State other) {
            day = other.day;
            taken = other.taken;
            stolen = other.stolen;
            System.arraycopy(other.dust, 0, dust, 0, ROOMS);
            System.arraycopy(other.brought, 0, brought, 0, ROOMS);
            System.arraycopy(other.calendar, 0, calendar, 0, NUMBERS);
        }

        void lay(int room, int much) {
            dust[room] = Math.min(MOST, dust[room] + much);
        }

        void bring(int room, int to, int much) {
            dust[room] -= much;
            lay(to, much);
            brought[to] += much;
        }

        int steal(int room, int much) {
            int some = Math.min(much, dust[room]);
            dust[room] -= some;
            stolen += some;
            return some;
        }
    }

    // How a day goes.
    private static final class Course {
        static int windOf(Facts facts, State state, int day) {
            return facts.numbers > 0 && day >= 0 ? state.calendar[day % facts.numbers] : CALM;
        }

        static void passMany(Facts facts, State state, int days) {
            for (int i = 0; i < days; i++) {
                pass(facts, state, windOf(facts, state, state.day), facts.every);
            }
        }

        static void pass(Facts facts, State state, int wind, int every) {
            for (int room = 0; room < facts.rooms; room++) {
                state.lay(room, facts.comesTo(room));
            }
            if (wind >= 0 && wind < facts.winds) {
                carry(facts, state, wind);
            }
            if (every > 0 && (state.day + 1) % every == 0) {
                tithe(facts, state);
            }
            state.day++;
        }

        private static void carry(Facts facts, State state, int wind) {
            for (int i = 0; i < facts.blows[wind]; i++) {
                int at = wind * BLOWS + i;
                int much = state.dust[facts.blowFrom[at]] * facts.tenths[at] / 10;
                state.dust[facts.blowFrom[at]] -= much;
                state.lay(facts.blowTo[at], facts.arrives(facts.blowTo[at], much));
            }
        }

        private static void tithe(Facts facts, State state) {
            for (int room = 0; room < facts.rooms; room++) {
                int much = titheOf(facts, state, room);
                state.dust[room] -= much;
                state.taken += much;
                state.brought[room] = 0;
            }
        }

        static int titheOf(Facts facts, State state, int room) {
            int dust = state.dust[room];
            if (facts.rule.isEmpty()) {
                return dust / 10;
            }
            int[] values = facts.rule.values;
            values[Rule.DUST - Rule.DUST] = dust;
            values[Rule.DUST - Rule.KIND] = facts.kind[room];
            values[Rule.DUST - Rule.OWNER] = facts.owner[room];
            values[Rule.DUST - Rule.DAY] = state.day;
            values[Rule.DUST - Rule.RICH] = facts.houses[facts.owner[room]];
            values[Rule.DUST - Rule.BROUGHT] = state.brought[room];
            return Math.max(0, Math.min(dust, facts.rule.amount()));
        }

        static int dustInAll(Facts facts, State state) {
            int sum = 0;
            for (int room = 0; room < facts.rooms; room++) {
                sum += state.dust[room];
            }
            return sum;
        }

        static int heretics(Facts facts, State state) {
            int bits = 0;
            for (int room = 0; room < facts.rooms; room++) {
                if (isUnclean(facts, state, room)) {
                    bits |= 1 << facts.owner[room];
                }
            }
            return bits;
        }

        static boolean isUnclean(Facts facts, State state, int room) {
            return facts.kind[room] != ATTIC && state.dust[room] < facts.clean;
        }
    }

    // The acts that are kept: each as all was ahead of it, in a ring.
    private static final class Acts {
        int many = 0;
        private int first = 0;
        private final State[] before = new State[ACTS];

        Acts() {
            for (int i = 0; i < ACTS; i++) {
                before[i] = new State();
            }
        }

        void remember(State state) {
            if (many == ACTS) {
                first = (first + 1) % ACTS;
                many--;
            }
            before[(first + many) % ACTS].copy(state);
            many++;
        }

        void giveBack(State state) {
            if (many > 0) {
                many--;
                state.copy(before[(first + many) % ACTS]);
            }
        }

        void copy(Acts other) {
            many = other.many;
            first = other.first;
            for (int i = 0; i < ACTS; i++) {
                before[i].copy(other.before[i]);
            }
        }
    }

    private static final class Sights {
        int many = 0;
        private final int[] room = new int[SIGHTS];
        private final int[] ahead = new int[SIGHTS];
        private final int[] much = new int[SIGHTS];

        void add(int where, int when, int dust) {
            if (many < SIGHTS) {
                room[many] = where;
                ahead[many] = when;
                much[many] = dust;
                many++;
            }
        }

        int lastDay() {
            int last = NONE;
            for (int i = 0; i < many; i++) {
                last = Math.max(last, ahead[i]);
            }
            return last;
        }

        boolean areSo(int day, State state) {
            for (int i = 0; i < many; i++) {
                if (ahead[i] == day && state.dust[room[i]] != much[i]) {
                    return false;
                }
            }
            return true;
        }

        void copy(Sights other) {
            many = other.many;
            System.arraycopy(other.room, 0, room, 0, SIGHTS);
            System.arraycopy(other.ahead, 0, ahead, 0, SIGHTS);
            System.arraycopy(other.much, 0, much, 0, SIGHTS);
        }
    }

    // All that an image keeps.
    private static final class Present {
        final State state = new State();
        final Acts acts = new Acts();
        final Sights sights = new Sights();
        final int[] refused = new int[3];

        void begin(Facts facts) {
            state.begin(facts);
            acts.many = 0;
            sights.many = 0;
        }

        void copy(Present other) {
            state.copy(other.state);
            acts.copy(other.acts);
            sights.copy(other.sights);
            System.arraycopy(other.refused, 0, refused, 0, refused.length);
        }
    }

    // The tithe's rule, operands ahead of their operator: a number as itself, all else below 0.
    private static final class Rule {
        static final int DUST = -1;
        static final int KIND = -2;
        static final int OWNER = -3;
        static final int DAY = -4;
        static final int RICH = -5;
        static final int BROUGHT = -6;
        static final int PLUS = -7;
        static final int MINUS = -8;
        static final int TIMES = -9;
        static final int OVER = -10;
        static final int LESS = -11;
        static final int SAME = -12;
        static final int NOT = -13;
        static final int AND = -14;
        static final int OR = -15;
        // Six expressions within one another leave at most five operands waiting each.
        private static final int STACK = 40;
        private static final int VALUES = 6;

        // The VALUES of a ROOM, DUST's first, as their numbers fall.
        final int[] values = new int[VALUES];
        private int size = 0;
        private final int[] code = new int[TAPE];
        private final int[] stack = new int[STACK];

        void clear() {
            size = 0;
        }

        boolean isEmpty() {
            return size == 0;
        }

        void put(int item) {
            if (size < TAPE) {
                code[size] = item;
                size++;
            }
        }

        int amount() {
            int top = 0;
            for (int i = 0; i < size; i++) {
                int item = code[i];
                if (item >= BROUGHT) {
                    if (top >= STACK) {
                        return 0;
                    }
                    stack[top] = item >= 0 ? item : values[DUST - item];
                    top++;
                } else if (item == NOT) {
                    if (top < 1) {
                        return 0;
                    }
                    stack[top - 1] = stack[top - 1] == 0 ? 1 : 0;
                } else {
                    if (top < 2) {
                        return 0;
                    }
                    top--;
                    stack[top - 1] = join(item, stack[top - 1], stack[top]);
                }
            }
            return stack[0];
        }

        private static int join(int item, int one, int other) {
            switch (item) {
                case PLUS: return one + other;
                case MINUS: return one - other;
                case TIMES: return one * other;
                case OVER: return other == 0 ? 0 : one / other;
                case LESS: return one < other ? 1 : 0;
                case SAME: return one == other ? 1 : 0;
                case AND: return one != 0 && other != 0 ? 1 : 0;
                default: return one != 0 || other != 0 ? 1 : 0;
            }
        }
    }

    private static final class Tokens {
        static final int END = 0;
        static final int WORD = 1;
        static final int NUMBER = 2;
        static final int SIGN = 3;
        static final int OTHER = 4;
        private static final int DIGITS = 4;
        private static final String SIGNS = ";()+-*/<=";

        int what = END;
        int start = 0;
        int value = 0;
        boolean tooLong = false;
        private int end = 0;
        private int length = 0;
        private final byte[] text;

        Tokens(byte[] bytes) {
            text = bytes;
        }

        void begin(int many) {
            length = Math.min(many, text.length);
            end = 0;
            step();
        }

        void step() {
            while (end < length && isBlank(text[end])) {
                end++;
            }
            start = end;
            if (end >= length) {
                what = END;
            } else if (isLetter(text[end])) {
                what = WORD;
                while (end < length && isLetter(text[end])) {
                    end++;
                }
            } else if (isDigit(text[end])) {
                what = NUMBER;
                takeNumber();
            } else {
                what = SIGNS.indexOf((char) (text[end] & 255)) >= 0 ? SIGN : OTHER;
                end++;
            }
        }

        private void takeNumber() {
            value = 0;
            while (end < length && isDigit(text[end])) {
                value = end - start < DIGITS ? value * 10 + text[end] - '0' : value;
                end++;
            }
            tooLong = end - start > DIGITS;
        }

        boolean isWord(String word) {
            if (what != WORD || end - start != word.length()) {
                return false;
            }
            for (int i = 0; i < word.length(); i++) {
                if (text[start + i] != word.charAt(i)) {
                    return false;
                }
            }
            return true;
        }

        boolean isSign(char sign) {
            return what == SIGN && text[start] == sign;
        }

        private static boolean isBlank(int c) {
            return c == 32 || c == 10;
        }

        private static boolean isLetter(int c) {
            return c >= 'a' && c <= 'z';
        }

        private static boolean isDigit(int c) {
            return c >= '0' && c <= '9';
        }
    }

    // Reads a text line by line. Its methods answer a FAULT, or 0; the token at hand has it.
    private static final class Reader {
        private final Tokens tokens;
        private final RuleReader rules;
        private Facts facts;
        private int told = 0;
        private boolean hasCalendar = false;
        private boolean hasEvery = false;
        private boolean hasClean = false;
        private boolean hasTithe = false;

        Reader(byte[] text, Facts into) {
            tokens = new Tokens(text);
            rules = new RuleReader(tokens, into.rule);
            facts = into;
        }

        int place() {
            return tokens.start;
        }

        int read(int length, Facts into) {
            facts = into;
            facts.clear();
            hasCalendar = false;
            hasEvery = false;
            hasClean = false;
            hasTithe = false;
            tokens.begin(length);
            for (int line = 0; line <= TAPE && tokens.what != Tokens.END; line++) {
                int fault = readLine();
                if (fault == 0 && !tokens.isSign(';')) {
                    fault = 1;
                }
                if (fault != 0) {
                    return fault;
                }
                tokens.step();
            }
            return 0;
        }

        private int readLine() {
            if (tokens.isWord("pew")) {
                return readRoom(0);
            }
            if (tokens.isWord("chapel")) {
                return readRoom(CHAPEL);
            }
            if (tokens.isWord("attic")) {
                return readRoom(ATTIC);
            }
            if (tokens.isWord("door")) {
                return readDoor();
            }
            if (tokens.isWord("wind")) {
                return readWind();
            }
            if (tokens.isWord("blow")) {
                return readBlow();
            }
            if (tokens.isWord("calendar")) {
                return readCalendar();
            }
            if (tokens.isWord("every")) {
                return readEvery();
            }
            if (tokens.isWord("clean")) {
                return readClean();
            }
            if (!tokens.isWord("tithe")) {
                return 1;
            }
            if (hasTithe) {
                return 5;
            }
            hasTithe = true;
            tokens.step();
            return rules.read(facts.rule);
        }

        private int readNumber(int least, int most) {
            int fault = lookAtNumber();
            if (fault == 0 && (tokens.value < least || tokens.value > most)) {
                fault = 2;
            }
            if (fault == 0) {
                told = tokens.value;
                tokens.step();
            }
            return fault;
        }

        private int readRoomNumber() {
            int fault = lookAtRoomNumber();
            if (fault == 0) {
                told = tokens.value;
                tokens.step();
            }
            return fault;
        }

        private int lookAtNumber() {
            if (tokens.what != Tokens.NUMBER) {
                return 1;
            }
            return tokens.tooLong ? 2 : 0;
        }

        private int lookAtRoomNumber() {
            int fault = lookAtNumber();
            return fault == 0 && tokens.value >= facts.rooms ? 3 : fault;
        }

        private int readRoom(int kind) {
            int room = facts.rooms;
            if (room >= ROOMS) {
                return 2;
            }
            tokens.step();
            facts.kind[room] = kind;
            int fault = readNumber(0, OWNERS - 1);
            if (fault != 0) {
                return fault;
            }
            facts.owner[room] = told;
            fault = readNumber(0, 999);
            if (fault != 0) {
                return fault;
            }
            facts.dust[room] = told;
            fault = readNumber(0, 99);
            if (fault != 0) {
                return fault;
            }
            facts.settles[room] = told;
            facts.rooms++;
            return 0;
        }

        private int readDoor() {
            if (facts.doors >= DOORS) {
                return 2;
            }
            tokens.step();
            int fault = readRoomNumber();
            if (fault != 0) {
                return fault;
            }
            int one = told;
            fault = lookAtRoomNumber();
            if (fault == 0 && (tokens.value == one || facts.hasDoor(one, tokens.value))) {
                fault = 4;
            }
            if (fault != 0) {
                return fault;
            }
            int other = tokens.value;
            tokens.step();
            fault = readNumber(1, 9);
            if (fault == 0) {
                facts.addDoor(one, other, told);
            }
            return fault;
        }

        private int readWind() {
            if (facts.winds >= WINDS) {
                return 2;
            }
            tokens.step();
            facts.blows[facts.winds] = 0;
            facts.winds++;
            return 0;
        }

        private int readBlow() {
            int wind = facts.winds - 1;
            if (wind < 0) {
                return 1;
            }
            if (facts.blows[wind] >= BLOWS) {
                return 2;
            }
            int at = wind * BLOWS + facts.blows[wind];
            tokens.step();
            int fault = readRoomNumber();
            if (fault != 0) {
                return fault;
            }
            facts.blowFrom[at] = told;
            fault = lookAtRoomNumber();
            if (fault == 0 && !facts.hasDoor(told, tokens.value)) {
                fault = 6;
            }
            if (fault != 0) {
                return fault;
            }
            facts.blowTo[at] = tokens.value;
            tokens.step();
            fault = readNumber(1, 9);
            if (fault != 0) {
                return fault;
            }
            facts.tenths[at] = told;
            facts.blows[wind]++;
            return 0;
        }

        private int readCalendar() {
            if (hasCalendar) {
                return 5;
            }
            hasCalendar = true;
            tokens.step();
            for (int i = 0; i <= NUMBERS; i++) {
                if (i > 0 && tokens.what != Tokens.NUMBER) {
                    return 0;
                }
                int fault = lookAtNumber();
                if (fault == 0 && i == NUMBERS) {
                    fault = 2;
                }
                if (fault == 0 && tokens.value != CALM && tokens.value >= facts.winds) {
                    fault = 3;
                }
                if (fault != 0) {
                    return fault;
                }
                facts.calendar[i] = tokens.value;
                facts.numbers = i + 1;
                tokens.step();
            }
            return 0;
        }

        private int readEvery() {
            if (hasEvery) {
                return 5;
            }
            hasEvery = true;
            tokens.step();
            int fault = readNumber(1, EVERY_MOST);
            facts.every = fault == 0 ? told : facts.every;
            return fault;
        }

        private int readClean() {
            if (hasClean) {
                return 5;
            }
            hasClean = true;
            tokens.step();
            int fault = readNumber(0, 999);
            facts.clean = fault == 0 ? told : facts.clean;
            return fault;
        }
    }

    // Reads an EXPR token by token; operators wait until a weaker one, or the end, comes.
    private static final class RuleReader {
        private static final int OPEN = 0;
        private static final int WITHIN = 6;
        private static final int NOTS = 6;
        private static final int STRENGTH_OR = 1;
        private static final int STRENGTH_AND = 2;
        private static final int STRENGTH_NOT = 3;
        private static final int STRENGTH_TEST = 4;
        private static final int STRENGTH_SUM = 5;
        private static final int STRENGTH_PRODUCT = 6;
        // Of each of six expressions twelve signs can wait: ( or and, six nots, a test, + and *.
        private static final int WAITING = 80;

        private final int[] waiting = new int[WAITING];
        private int many = 0;
        private int depth = 0;
        private int nots = 0;
        private boolean wantsPart = true;
        private boolean notMayStand = true;
        private final Tokens tokens;
        private Rule rule;

        RuleReader(Tokens from, Rule into) {
            tokens = from;
            rule = into;
        }

        int read(Rule into) {
            rule = into;
            many = 0;
            depth = 0;
            wantNot();
            for (int i = 0; i <= TAPE; i++) {
                if (!wantsPart && depth == 0 && tokens.isSign(';')) {
                    release(STRENGTH_OR);
                    return 0;
                }
                int fault = wantsPart ? readPart() : readSign();
                if (fault != 0) {
                    return fault;
                }
                tokens.step();
            }
            return 1;
        }

        private void wantNot() {
            wantPart();
            notMayStand = true;
            nots = 0;
        }

        private void wantPart() {
            wantsPart = true;
            notMayStand = false;
        }

        private int readPart() {
            boolean opens = tokens.isSign('(');
            if (!opens && tokens.what != Tokens.WORD && tokens.what != Tokens.NUMBER) {
                return 1;
            }
            // So deep it can only be the first of its expression: none goes on behind it.
            if (depth >= WITHIN) {
                return 2;
            }
            if (opens) {
                depth++;
                wantNot();
                return hold(OPEN);
            }
            if (notMayStand && tokens.isWord("not")) {
                nots++;
                return nots > NOTS ? 2 : hold(Rule.NOT);
            }
            wantsPart = false;
            if (tokens.what == Tokens.NUMBER) {
                rule.put(tokens.value);
                return tokens.tooLong ? 2 : 0;
            }
            int value = valueAtHand();
            rule.put(value);
            return value == 0 ? 3 : 0;
        }

        private int valueAtHand() {
            if (tokens.isWord("dust")) {
                return Rule.DUST;
            }
            if (tokens.isWord("kind")) {
                return Rule.KIND;
            }
            if (tokens.isWord("owner")) {
                return Rule.OWNER;
            }
            if (tokens.isWord("day")) {
                return Rule.DAY;
            }
            if (tokens.isWord("rich")) {
                return Rule.RICH;
            }
            return tokens.isWord("brought") ? Rule.BROUGHT : 0;
        }

        private int readSign() {
            if (tokens.isSign(')')) {
                return close();
            }
            int sign = signAtHand();
            if (sign == OPEN) {
                return 1;
            }
            int strength = strengthOf(sign);
            // A test holds two sums and no third one, so a test may not wait below another.
            release(strength == STRENGTH_TEST ? STRENGTH_SUM : strength);
            if (strength == STRENGTH_TEST && strengthWaiting() == STRENGTH_TEST) {
                return 1;
            }
            if (strength <= STRENGTH_AND) {
                wantNot();
            } else {
                wantPart();
            }
            return hold(sign);
        }

        private int close() {
            if (depth == 0) {
                return 1;
            }
            release(STRENGTH_OR);
            many = Math.max(0, many - 1);
            depth--;
            return 0;
        }

        private int signAtHand() {
            if (tokens.isSign('+')) {
                return Rule.PLUS;
            }
            if (tokens.isSign('-')) {
                return Rule.MINUS;
            }
            if (tokens.isSign('*')) {
                return Rule.TIMES;
            }
            if (tokens.isSign('/')) {
                return Rule.OVER;
            }
            if (tokens.isSign('<')) {
                return Rule.LESS;
            }
            if (tokens.isSign('=')) {
                return Rule.SAME;
            }
            if (tokens.isWord("and")) {
                return Rule.AND;
            }
            return tokens.isWord("or") ? Rule.OR : OPEN;
        }

        private static int strengthOf(int sign) {
            switch (sign) {
                case Rule.OR: return STRENGTH_OR;
                case Rule.AND: return STRENGTH_AND;
                case Rule.NOT: return STRENGTH_NOT;
                case Rule.LESS:
                case Rule.SAME: return STRENGTH_TEST;
                case Rule.PLUS:
                case Rule.MINUS: return STRENGTH_SUM;
                case Rule.TIMES:
                case Rule.OVER: return STRENGTH_PRODUCT;
                default: return OPEN;
            }
        }

        private int strengthWaiting() {
            return many > 0 ? strengthOf(waiting[many - 1]) : OPEN;
        }

        private void release(int strength) {
            while (many > 0 && strengthOf(waiting[many - 1]) >= strength) {
                many--;
                rule.put(waiting[many]);
            }
        }

        private int hold(int sign) {
            if (many >= WAITING) {
                return 2;
            }
            waiting[many] = sign;
            many++;
            return 0;
        }
    }
}
