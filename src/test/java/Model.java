import java.util.ArrayDeque;
import java.util.ArrayList;
import java.util.Arrays;
import java.util.List;
import java.util.NoSuchElementException;

/**
 * The document told a second time, as plainly and as differently as can be (a tree for the rule,
 * all ways tried one by one), so that answers of the class can be compared with it.
 */
final class Model {
    static final class Fault extends Exception {
        private static final long serialVersionUID = 1L;
        final int number;
        final int place;

        Fault(int number, int place) {
            this.number = number;
            this.place = place;
        }
    }

    interface Expr {
        int value(int[] of);
    }

    record Token(char type, String text, int place) {
        boolean is(String other) {
            return text.equals(other);
        }
    }

    record Room(int kind, int owner, int dust, int settles) {
    }

    record Door(int one, int other, int steps) {
        boolean joins(int a, int b) {
            return one == a && other == b || one == b && other == a;
        }
    }

    record Blow(int from, int to, int tenths) {
    }

    record Sight(int room, int days, int much) {
    }

    static final class World implements Cloneable {
        int day;
        int taken;
        int stolen;
        int[] dust = {};
        int[] brought = {};
        int[] calendar = {};

        World copy() {
            World w = new World();
            w.day = day;
            w.taken = taken;
            w.stolen = stolen;
            w.dust = dust.clone();
            w.brought = brought.clone();
            w.calendar = calendar.clone();
            return w;
        }
    }

    static final class Told {
        final List<Room> rooms = new ArrayList<>();
        final List<Door> doors = new ArrayList<>();
        final List<List<Blow>> winds = new ArrayList<>();
        List<Integer> calendar = null;
        Integer every = null;
        Integer clean = null;
        Expr tithe = null;

        int every() {
            return every == null ? 7 : every;
        }

        int clean() {
            return clean == null ? 10 : clean;
        }

        boolean door(int a, int b) {
            return doors.stream().anyMatch(d -> d.joins(a, b));
        }
    }

    // ---- the text ----

    private static final class Parser {
        private final List<Token> tokens = new ArrayList<>();
        private int at = 0;
        private final Told told = new Told();

        Parser(String text) {
            int i = 0;
            while (i < text.length()) {
                char c = text.charAt(i);
                int j = i + 1;
                char type;
                if (c == ' ' || c == '\n') {
                    i++;
                    continue;
                } else if (c >= 'a' && c <= 'z') {
                    type = 'w';
                    while (j < text.length() && text.charAt(j) >= 'a' && text.charAt(j) <= 'z') {
                        j++;
                    }
                } else if (c >= '0' && c <= '9') {
                    type = 'n';
                    while (j < text.length() && text.charAt(j) >= '0' && text.charAt(j) <= '9') {
                        j++;
                    }
                } else {
                    type = ";()+-*/<=".indexOf(c) >= 0 ? 's' : '?';
                }
                tokens.add(new Token(type, text.substring(i, j), i));
                i = j;
            }
            tokens.add(new Token('e', "", text.length()));
        }

        private Token peek() {
            return tokens.get(at);
        }

        private Fault fault(int number) {
            return new Fault(number, peek().place());
        }

        private int number() throws Fault {
            if (peek().type() != 'n') {
                throw fault(1);
            }
            if (peek().text().length() > 4) {
                throw fault(2);
            }
            return Integer.parseInt(peek().text());
        }

        private int take(int least, int most) throws Fault {
            int n = number();
            if (n < least || n > most) {
                throw fault(2);
            }
            at++;
            return n;
        }

        private int roomAhead() throws Fault {
            int n = number();
            if (n >= told.rooms.size()) {
                throw fault(3);
            }
            return n;
        }

        Told parish() throws Fault {
            while (peek().type() != 'e') {
                line();
                if (!peek().is(";")) {
                    throw fault(1);
                }
                at++;
            }
            return told;
        }

        private void line() throws Fault {
            String word = peek().text();
            switch (word) {
                case "pew", "chapel", "attic" -> {
                    if (told.rooms.size() == 9) {
                        throw fault(2);
                    }
                    at++;
                    told.rooms.add(new Room(List.of("pew", "chapel", "attic").indexOf(word), take(0, 5), take(0, 999), take(0, 99)));
                }
                case "door" -> {
                    if (told.doors.size() == 14) {
                        throw fault(2);
                    }
                    at++;
                    int one = roomAhead();
                    at++;
                    int other = roomAhead();
                    if (one == other || told.door(one, other)) {
                        throw fault(4);
                    }
                    at++;
                    told.doors.add(new Door(one, other, take(1, 9)));
                }
                case "wind" -> {
                    if (told.winds.size() == 5) {
                        throw fault(2);
                    }
                    at++;
                    told.winds.add(new ArrayList<>());
                }
                case "blow" -> blow();
                case "calendar" -> calendar();
                case "every" -> {
                    if (told.every != null) {
                        throw fault(5);
                    }
                    at++;
                    told.every = take(1, 30);
                }
                case "clean" -> {
                    if (told.clean != null) {
                        throw fault(5);
                    }
                    at++;
                    told.clean = take(0, 999);
                }
                case "tithe" -> {
                    if (told.tithe != null) {
                        throw fault(5);
                    }
                    at++;
                    told.tithe = or(0);
                }
                default -> throw fault(1);
            }
        }

        private void blow() throws Fault {
            if (told.winds.isEmpty()) {
                throw fault(1);
            }
            List<Blow> wind = told.winds.get(told.winds.size() - 1);
            if (wind.size() == 8) {
                throw fault(2);
            }
            at++;
            int from = roomAhead();
            at++;
            int to = roomAhead();
            if (!told.door(from, to)) {
                throw fault(6);
            }
            at++;
            wind.add(new Blow(from, to, take(1, 9)));
        }

        private void calendar() throws Fault {
            if (told.calendar != null) {
                throw fault(5);
            }
            at++;
            told.calendar = new ArrayList<>();
            do {
                int n = number();
                if (told.calendar.size() == 10) {
                    throw fault(2);
                }
                if (n != 5 && n >= told.winds.size()) {
                    throw fault(3);
                }
                told.calendar.add(n);
                at++;
            } while (peek().type() == 'n');
        }

        private Expr or(int within) throws Fault {
            Token first = peek();
            if (within == 6 && (first.type() == 'n' || first.type() == 'w' || first.is("("))) {
                throw fault(2);
            }
            Expr left = and(within);
            while (peek().is("or")) {
                at++;
                Expr a = left;
                Expr b = and(within);
                left = of -> a.value(of) != 0 | b.value(of) != 0 ? 1 : 0;
            }
            return left;
        }

        private Expr and(int within) throws Fault {
            Expr left = not(within, 0);
            while (peek().is("and")) {
                at++;
                Expr a = left;
                Expr b = not(within, 0);
                left = of -> a.value(of) != 0 & b.value(of) != 0 ? 1 : 0;
            }
            return left;
        }

        private Expr not(int within, int ahead) throws Fault {
            if (peek().is("not")) {
                if (ahead == 6) {
                    throw fault(2);
                }
                at++;
                Expr a = not(within, ahead + 1);
                return of -> a.value(of) == 0 ? 1 : 0;
            }
            Expr a = sum(within);
            if (peek().is("<")) {
                at++;
                Expr b = sum(within);
                return of -> a.value(of) < b.value(of) ? 1 : 0;
            }
            if (peek().is("=")) {
                at++;
                Expr b = sum(within);
                return of -> a.value(of) == b.value(of) ? 1 : 0;
            }
            return a;
        }

        private Expr sum(int within) throws Fault {
            Expr left = product(within);
            while (peek().is("+") || peek().is("-")) {
                boolean plus = peek().is("+");
                at++;
                Expr a = left;
                Expr b = product(within);
                left = of -> plus ? a.value(of) + b.value(of) : a.value(of) - b.value(of);
            }
            return left;
        }

        private Expr product(int within) throws Fault {
            Expr left = part(within);
            while (peek().is("*") || peek().is("/")) {
                boolean times = peek().is("*");
                at++;
                Expr a = left;
                Expr b = part(within);
                left = of -> {
                    int divisor = b.value(of);
                    return times ? a.value(of) * divisor : divisor == 0 ? 0 : a.value(of) / divisor;
                };
            }
            return left;
        }

        private Expr part(int within) throws Fault {
            Token token = peek();
            if (token.type() == 'n') {
                int n = number();
                at++;
                return of -> n;
            }
            if (token.type() == 'w') {
                int which = List.of("dust", "kind", "owner", "day", "rich", "brought").indexOf(token.text());
                if (which < 0) {
                    throw fault(3);
                }
                at++;
                return of -> of[which];
            }
            if (!token.is("(")) {
                throw fault(1);
            }
            at++;
            Expr inner = or(within + 1);
            if (!peek().is(")")) {
                throw fault(1);
            }
            at++;
            return inner;
        }
    }

    // ---- the object ----

    private final StringBuilder tape = new StringBuilder();
    private int place = -1;
    private Told told = new Told();
    private World world = new World();
    private ArrayDeque<World> acts = new ArrayDeque<>();
    private List<Sight> seen = new ArrayList<>();
    private int[] status = new int[3];
    private World keptWorld = null;
    private ArrayDeque<World> keptActs = null;
    private List<Sight> keptSeen = null;
    private int[] keptStatus = null;

    int feed(int... five) {
        if (tape.length() + 20 > 700) {
            return -1;
        }
        for (int n : five) {
            for (int i = 3; i >= 0; i--) {
                tape.append((char) (n >> 8 * i & 255));
            }
        }
        return tape.length();
    }

    int parish(int n) {
        if (n < 0 || n > tape.length()) {
            throw new IllegalArgumentException();
        }
        String text = tape.substring(0, n);
        tape.setLength(0);
        try {
            told = new Parser(text).parish();
        } catch (Fault fault) {
            place = fault.place;
            status[0]++;
            return fault.number;
        }
        place = -1;
        world = new World();
        world.dust = told.rooms.stream().mapToInt(Room::dust).toArray();
        world.brought = new int[told.rooms.size()];
        world.calendar = told.calendar == null ? new int[0] : told.calendar.stream().mapToInt(Integer::intValue).toArray();
        acts.clear();
        seen.clear();
        keptWorld = null;
        return 0;
    }

    int fault() {
        return place;
    }

    int count(int what) {
        int[] all = {told.rooms.size(), told.doors.size(), told.winds.size(), world.calendar.length, told.every(), told.clean(),
            world.day, Arrays.stream(world.dust).sum(), world.taken, world.stolen, heretics(world), acts.size(), seen.size(),
            tape.length(), status[0], status[1], status[2]};
        if (what < 0 || what >= all.length) {
            throw new NoSuchElementException();
        }
        return all[what];
    }

    private void need(int... rooms) {
        for (int room : rooms) {
            if (room < 0 || room >= told.rooms.size()) {
                throw new NoSuchElementException();
            }
        }
    }

    private static void within(int n, int least, int most) {
        if (n < least || n > most) {
            throw new IllegalArgumentException();
        }
    }

    private static void what(int n, int most) {
        if (n < 0 || n > most) {
            throw new NoSuchElementException();
        }
    }

    private int heretics(World w) {
        int bits = 0;
        for (int i = 0; i < w.dust.length; i++) {
            if (told.rooms.get(i).kind() != 2 && w.dust[i] < told.clean()) {
                bits |= 1 << told.rooms.get(i).owner();
            }
        }
        return bits;
    }

    private int tithe(World w, int i) {
        Room room = told.rooms.get(i);
        if (told.tithe == null) {
            return w.dust[i] / 10;
        }
        int rich = (int) told.rooms.stream().filter(r -> r.owner() == room.owner()).count();
        int gives = told.tithe.value(new int[] {w.dust[i], room.kind(), room.owner(), w.day, rich, w.brought[i]});
        return gives < 0 ? 0 : gives > w.dust[i] ? w.dust[i] : gives;
    }

    int room(int room, int what) {
        need(room);
        what(what, 6);
        Room r = told.rooms.get(room);
        int doors = (int) told.doors.stream().filter(d -> d.one() == room || d.other() == room).count();
        return new int[] {r.kind(), r.owner(), world.dust[room], r.settles(), world.brought[room], tithe(world, room), doors}[what];
    }

    /** Ways by going on as long as some way gets shorter. */
    private int[] waysFrom(int room) {
        int[] way = new int[told.rooms.size()];
        Arrays.fill(way, -1);
        way[room] = 0;
        for (boolean again = true; again;) {
            again = false;
            for (Door d : told.doors) {
                for (int turn = 0; turn < 2; turn++) {
                    int a = turn == 0 ? d.one() : d.other();
                    int b = turn == 0 ? d.other() : d.one();
                    if (way[a] >= 0 && (way[b] < 0 || way[b] > way[a] + d.steps())) {
                        way[b] = way[a] + d.steps();
                        again = true;
                    }
                }
            }
        }
        return way;
    }

    int far(int room, int other) {
        need(room, other);
        return waysFrom(room)[other];
    }

    int near(int room, int steps) {
        need(room);
        int[] way = waysFrom(room);
        int bits = 0;
        for (int i = 0; i < way.length; i++) {
            bits |= way[i] >= 0 && way[i] <= steps ? 1 << i : 0;
        }
        return bits;
    }

    int blow(int wind, int i, int what) {
        what(wind, told.winds.size() - 1);
        what(what, 2);
        List<Blow> blows = told.winds.get(wind);
        if (i == -1) {
            return blows.size();
        }
        what(i, blows.size() - 1);
        return new int[] {blows.get(i).from(), blows.get(i).to(), blows.get(i).tenths()}[what];
    }

    private static int windOf(World w, int day) {
        return w.calendar.length == 0 ? 5 : w.calendar[day % w.calendar.length];
    }

    int wind(int day) {
        within(day, 0, 9999);
        return windOf(world, day);
    }

    private void day(World w, int wind, int every) {
        for (int i = 0; i < w.dust.length; i++) {
            Room r = told.rooms.get(i);
            w.dust[i] = Math.min(9999, w.dust[i] + r.settles() * (r.kind() == 2 ? 2 : 1));
        }
        if (wind != 5) {
            for (Blow b : told.winds.get(wind)) {
                int goes = w.dust[b.from()] * b.tenths() / 10;
                w.dust[b.from()] -= goes;
                int comes = told.rooms.get(b.to()).kind() == 1 ? goes / 2 : goes;
                w.dust[b.to()] = Math.min(9999, w.dust[b.to()] + comes);
            }
        }
        if ((w.day + 1) % every == 0) {
            for (int i = 0; i < w.dust.length; i++) {
                int gives = tithe(w, i);
                w.dust[i] -= gives;
                w.taken += gives;
                w.brought[i] = 0;
            }
        }
        w.day++;
    }

    private World after(World from, int days, int every) {
        World w = from.copy();
        for (int i = 0; i < days; i++) {
            day(w, windOf(w, w.day), every);
        }
        return w;
    }

    private World after(int days) {
        return after(world, days, told.every());
    }

    private int refuse(int which) {
        status[which]++;
        return -1;
    }

    private void act() {
        acts.addLast(world.copy());
        if (acts.size() > 40) {
            acts.removeFirst();
        }
    }

    int days(int many) {
        if (many < 1 || many > 30 || world.day + many > 999) {
            return refuse(1);
        }
        act();
        world = after(many);
        return world.day;
    }

    private static void bring(World w, int room, int to, int much) {
        w.dust[room] -= much;
        w.dust[to] = Math.min(9999, w.dust[to] + much);
        w.brought[to] += much;
    }

    int sweep(int room, int to, int much) {
        need(room, to);
        if (!told.door(room, to) || much < 1 || much > 999 || much > world.dust[room]) {
            return refuse(1);
        }
        act();
        bring(world, room, to, much);
        return world.dust[room];
    }

    int shake(int room, int to) {
        need(room, to);
        if (!told.door(room, to)) {
            return refuse(1);
        }
        act();
        int half = world.dust[room] / 2;
        bring(world, room, to, half);
        return half;
    }

    int sneeze(int room, int much) {
        need(room);
        if (much < 1 || much > 99) {
            return refuse(1);
        }
        act();
        int some = Math.min(much, world.dust[room]);
        world.dust[room] -= some;
        world.stolen += some;
        return some;
    }

    int plan(int i, int wind) {
        if (i < 0 || i >= world.calendar.length || wind < 0 || wind > 5 || wind != 5 && wind >= told.winds.size()) {
            return refuse(1);
        }
        act();
        int was = world.calendar[i];
        world.calendar[i] = wind;
        return was;
    }

    int undo() {
        if (acts.isEmpty()) {
            return -1;
        }
        world = acts.removeLast();
        return acts.size();
    }

    int then(int room, int days) {
        need(room);
        within(days, 0, 99);
        return after(days).dust[room];
    }

    int taken(int days) {
        within(days, 0, 99);
        return after(days).taken - world.taken;
    }

    int thick(int room, int much) {
        need(room);
        within(much, 0, 9999);
        World w = world.copy();
        for (int d = 0; d < 100; d++, day(w, windOf(w, w.day), told.every())) {
            if (w.dust[room] >= much) {
                return d;
            }
        }
        return -1;
    }

    int heresy() {
        World w = world.copy();
        for (int d = 0; d < 100; d++, day(w, windOf(w, w.day), told.every())) {
            if (heretics(w) != 0) {
                return d;
            }
        }
        return -1;
    }

    private void rows(List<Integer> row, List<List<Integer>> into) {
        if (row.size() == told.winds.size()) {
            into.add(new ArrayList<>(row));
        }
        for (int i = 0; i < told.winds.size(); i++) {
            if (!row.contains(i)) {
                row.add(i);
                rows(row, into);
                row.remove(row.size() - 1);
            }
        }
    }

    int order(int room, int i) {
        need(room);
        if (i != -1) {
            what(i, told.winds.size() - 1);
        }
        List<List<Integer>> all = new ArrayList<>();
        rows(new ArrayList<>(), all);
        int most = -1;
        List<Integer> best = null;
        for (List<Integer> row : all) {
            World w = world.copy();
            row.forEach(wind -> day(w, wind, told.every()));
            if (w.dust[room] > most) {
                most = w.dust[room];
                best = row;
            }
        }
        return i == -1 ? most : best.get(i);
    }

    int alms() {
        int sum = 0;
        for (int i = 0; i < world.dust.length; i++) {
            sum += told.rooms.get(i).kind() == 2 ? 0 : Math.max(0, told.clean() - world.dust[i]);
        }
        return sum;
    }

    private int roundOf(int room, int rest) {
        if (rest == 0) {
            return 0;
        }
        int best = -1;
        int[] way = waysFrom(room);
        for (int i = 0; i < way.length; i++) {
            if ((rest >> i & 1) != 0 && way[i] >= 0) {
                int on = roundOf(i, rest & ~(1 << i));
                if (on >= 0 && (best < 0 || way[i] + on < best)) {
                    best = way[i] + on;
                }
            }
        }
        return best;
    }

    int round(int room, int rooms) {
        need(room);
        if (rooms < 0 || rooms >= 1 << told.rooms.size()) {
            throw new IllegalArgumentException();
        }
        return roundOf(room, rooms & ~(1 << room));
    }

    private int sharesOf(int room, int[] loads) {
        if (room == world.dust.length) {
            return Arrays.stream(loads).max().getAsInt();
        }
        int best = Integer.MAX_VALUE;
        for (int i = 0; i < loads.length; i++) {
            loads[i] += world.dust[room];
            best = Math.min(best, sharesOf(room + 1, loads));
            loads[i] -= world.dust[room];
        }
        return best;
    }

    int shares(int deacons) {
        within(deacons, 1, 4);
        return sharesOf(0, new int[deacons]);
    }

    int from(int room, int other, int days) {
        need(room, other);
        within(days, 0, 9);
        int[] grain = new int[told.rooms.size()];
        grain[room] = 10000;
        for (int d = 0; d < days; d++) {
            int wind = windOf(world, world.day + d);
            for (Blow b : wind == 5 ? List.<Blow>of() : told.winds.get(wind)) {
                int goes = grain[b.from()] * b.tenths() / 10;
                grain[b.from()] -= goes;
                grain[b.to()] += told.rooms.get(b.to()).kind() == 1 ? goes / 2 : goes;
            }
        }
        return grain[other];
    }

    int poorest(int days) {
        within(days, 0, 99);
        int[] dust = after(days).dust;
        int best = -1;
        for (int i = dust.length - 1; i >= 0; i--) {
            best = best < 0 || dust[i] <= dust[best] ? i : best;
        }
        return best;
    }

    int fullest(int days) {
        within(days, 0, 99);
        int best = 0;
        for (int d = 0; d <= days; d++) {
            if (Arrays.stream(after(d).dust).sum() > Arrays.stream(after(best).dust).sum()) {
                best = d;
            }
        }
        return best;
    }

    int change(int days) {
        within(days, 0, 99);
        int best = -1;
        int most = after(days).taken;
        for (int i = 0; i < world.calendar.length; i++) {
            for (int j = i + 1; j < world.calendar.length; j++) {
                World w = world.copy();
                w.calendar[i] = world.calendar[j];
                w.calendar[j] = world.calendar[i];
                int much = after(w, days, told.every()).taken;
                if (much > most) {
                    most = much;
                    best = 10 * i + j;
                }
            }
        }
        return best;
    }

    int lend(int room) {
        need(room);
        for (int i = 0; i < world.dust.length; i++) {
            int lacks = told.clean() - world.dust[room];
            if (lacks > 0 && told.door(room, i) && world.dust[i] >= told.clean() + lacks) {
                return i;
            }
        }
        return -1;
    }

    int often(int days) {
        within(days, 0, 99);
        int best = 30;
        for (int every = 29; every >= 1; every--) {
            best = after(world, days, every).taken >= after(world, days, best).taken ? every : best;
        }
        return best;
    }

    int riches(int owner) {
        what(owner, 5);
        int sum = 0;
        for (int i = 0; i < world.dust.length; i++) {
            sum += told.rooms.get(i).owner() == owner ? world.dust[i] : 0;
        }
        return sum;
    }

    int lost(int days) {
        within(days, 0, 99);
        World w = after(days);
        int comes = told.rooms.stream().mapToInt(r -> days * r.settles() * (r.kind() == 2 ? 2 : 1)).sum();
        int more = Arrays.stream(w.dust).sum() - Arrays.stream(world.dust).sum();
        return comes - more - (w.taken - world.taken);
    }

    int see(int room, int days, int much) {
        need(room);
        if (seen.size() == 8 || days < 0 || days > 30 || much < 0 || much > 9999) {
            return refuse(2);
        }
        seen.add(new Sight(room, days, much));
        return seen.size();
    }

    private boolean allSeen(World w) {
        return seen.stream().allMatch(s -> after(w, s.days(), told.every()).dust[s.room()] == s.much());
    }

    int hand(int what) {
        what(what, 2);
        if (what == 2) {
            return allSeen(world) ? 1 : 0;
        }
        List<Integer> found = new ArrayList<>();
        for (int i = 0; i < world.dust.length; i++) {
            for (int much = 1; much <= 99 && much <= world.dust[i]; much++) {
                World w = world.copy();
                w.dust[i] -= much;
                if (allSeen(w)) {
                    found.add(100 * i + much);
                }
            }
        }
        return what == 0 ? found.size() : found.isEmpty() ? -1 : found.get(0);
    }

    int forget() {
        seen.clear();
        return 0;
    }

    int game(int one, int other, int what) {
        what(what, 1);
        within(one, 0, 5);
        within(other, 0, 5);
        if (one == other) {
            throw new IllegalArgumentException();
        }
        int a = -1;
        int b = -1;
        for (int i = world.dust.length - 1; i >= 0; i--) {
            a = told.rooms.get(i).owner() == one ? i : a;
            b = told.rooms.get(i).owner() == other ? i : b;
        }
        if (a < 0 || b < 0) {
            return what == 0 ? 0 : -1;
        }
        int[][][] loss = new int[2][2][2];
        for (int x = 0; x < 2; x++) {
            for (int y = 0; y < 2; y++) {
                int goes = x == 1 ? world.dust[a] / 2 : 0;
                int comes = y == 1 ? world.dust[b] / 2 : 0;
                int[] lies = {Math.min(9999, world.dust[a] - goes + comes), Math.min(9999, world.dust[b] - comes + goes)};
                for (int who = 0; who < 2; who++) {
                    loss[x][y][who] = lies[who] / 10;
                    if (lies[who] < told.clean()) {
                        loss[x][y][who] += 20;
                    }
                }
            }
        }
        int many = 0;
        int first = -1;
        for (int x = 1; x >= 0; x--) {
            for (int y = 1; y >= 0; y--) {
                if (loss[1 - x][y][0] >= loss[x][y][0] && loss[x][1 - y][1] >= loss[x][y][1]) {
                    many++;
                    first = 10 * x + y;
                }
            }
        }
        return what == 0 ? many : first;
    }

    int years(int seed, int n, int what) {
        what(what, 2);
        within(n, 0, 60);
        World w = world.copy();
        int unclean = 0;
        long s = seed;
        for (int i = 0; i < n; i++) {
            if (w.dust.length > 0) {
                s = s * 1103515245L + 12345 & 0xffffffffL;
                int room = (int) (s / 65536 % 32768 % w.dust.length);
                s = s * 1103515245L + 12345 & 0xffffffffL;
                int drawn = (int) (s / 65536 % 32768 % 4);
                if (drawn == 0) {
                    w.dust[room] = Math.max(0, w.dust[room] - 10);
                } else if (drawn == 1) {
                    for (Door d : told.doors) {
                        if (d.one() == room || d.other() == room) {
                            bring(w, room, d.one() + d.other() - room, w.dust[room] / 2);
                            break;
                        }
                    }
                }
            }
            day(w, windOf(w, w.day), told.every());
            unclean += heretics(w) == 0 ? 0 : 1;
        }
        return new int[] {w.taken - world.taken, unclean, Arrays.stream(w.dust).max().orElse(0)}[what];
    }

    int image() {
        keptWorld = world.copy();
        keptActs = new ArrayDeque<>();
        acts.forEach(w -> keptActs.addLast(w.copy()));
        keptSeen = new ArrayList<>(seen);
        keptStatus = status.clone();
        return 0;
    }

    int restore() {
        if (keptWorld == null) {
            return 0;
        }
        world = keptWorld.copy();
        acts = new ArrayDeque<>();
        keptActs.forEach(w -> acts.addLast(w.copy()));
        seen = new ArrayList<>(keptSeen);
        status = keptStatus.clone();
        return 1;
    }
}
