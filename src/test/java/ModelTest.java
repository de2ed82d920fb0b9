import java.util.ArrayList;
import java.util.List;
import java.util.Random;

/** Runs of drawn calls on drawn parishes: each answer is that of the Model, told a second time. */
public final class ModelTest {
    private static final int RUNS = 1500;
    private static final int TEXTS = 40000;
    private static final Check CHECK = new Check("ModelTest");

    private final Random random;
    private DustParish x = new DustParish();
    private Model m = new Model();

    private ModelTest(long seed) {
        random = new Random(seed);
    }

    public static void main(String[] args) {
        long first = args.length > 0 ? Long.parseLong(args[0]) : 1;
        for (int run = 0; run < RUNS; run++) {
            new ModelTest(first + run).calls();
        }
        ModelTest texts = new ModelTest(first);
        for (int i = 0; i < TEXTS; i++) {
            texts.x = new DustParish();
            texts.m = new Model();
            texts.tell(texts.random.nextInt(4) > 0 ? texts.spoilt(texts.text()) : texts.tokens());
        }
        CHECK.end();
    }

    // ---- texts ----

    private int upTo(int most) {
        return random.nextInt(most + 1);
    }

    private String pick(String... some) {
        return some[random.nextInt(some.length)];
    }

    private String part(int depth) {
        int what = upTo(9);
        if (what < 2 && depth < 5) {
            return "(" + expr(depth + 1) + ")";
        }
        return what < 6 ? pick("dust", "kind", "owner", "day", "rich", "brought") : Integer.toString(upTo(what < 9 ? 20 : 9999));
    }

    private String chain(int depth, String sign, String other, int level) {
        StringBuilder text = new StringBuilder(level(depth, level + 1));
        while (upTo(9) < 2) {
            text.append(' ').append(upTo(1) == 0 ? sign : other).append(' ').append(level(depth, level + 1));
        }
        return text.toString();
    }

    private String level(int depth, int level) {
        switch (level) {
            case 0: return chain(depth, "or", "or", 0);
            case 1: return chain(depth, "and", "and", 1);
            case 2: return "not ".repeat(upTo(9) < 1 ? 1 + upTo(5) : 0)
                + (upTo(9) < 2 ? level(depth, 3) + pick("<", "=") + level(depth, 3) : level(depth, 3));
            case 3: return chain(depth, "+", "-", 3);
            case 4: return chain(depth, "*", "/", 4);
            default: return part(depth);
        }
    }

    private String expr(int depth) {
        return level(depth, 0);
    }

    private String text() {
        int rooms = upTo(9) == 0 ? 0 : 1 + upTo(random.nextBoolean() ? 8 : 3);
        StringBuilder text = new StringBuilder();
        boolean full = upTo(5) == 0;
        for (int i = 0; i < rooms; i++) {
            text.append(pick("pew", "chapel", "attic")).append(' ').append(upTo(full ? 1 : 5)).append(' ')
                .append(full ? 900 + upTo(99) : upTo(random.nextBoolean() ? 40 : 400)).append(' ')
                .append(full ? 80 + upTo(19) : upTo(random.nextBoolean() ? 5 : 50)).append(pick(";", " ;", ";\n"));
        }
        List<String> doors = new ArrayList<>();
        for (int i = 0; i < 20 && rooms > 1; i++) {
            int one = upTo(rooms - 1);
            int other = upTo(rooms - 1);
            if (one != other && !doors.contains(one + " " + other) && !doors.contains(other + " " + one) && doors.size() < 14
                && upTo(2) > 0) {
                doors.add(one + " " + other);
                text.append("door ").append(one).append(' ').append(other).append(' ').append(1 + upTo(8)).append(';');
            }
        }
        int winds = upTo(5);
        for (int i = 0; i < winds; i++) {
            text.append("wind;");
            for (int j = upTo(4); j > 0 && !doors.isEmpty(); j--) {
                String[] door = doors.get(random.nextInt(doors.size())).split(" ");
                int turn = upTo(1);
                text.append("blow ").append(door[turn]).append(' ').append(door[1 - turn]).append(' ').append(1 + upTo(8)).append(';');
            }
        }
        if (upTo(5) > 0) {
            text.append("calendar");
            for (int j = upTo(random.nextBoolean() ? 9 : 3); j >= 0; j--) {
                int number = upTo(winds);
                text.append(' ').append(number == winds ? 5 : number);
            }
            text.append(';');
        }
        text.append(upTo(4) == 0 ? "" : "every " + (1 + upTo(random.nextBoolean() ? 29 : 4)) + ";");
        text.append(upTo(4) == 0 ? "" : "clean " + upTo(random.nextBoolean() ? 60 : 999) + ";");
        text.append(upTo(3) == 0 ? "" : "tithe " + (upTo(2) == 0 ? "dust/" + (1 + upTo(5)) + "+" + expr(0) : expr(0)) + ";");
        return text.toString();
    }

    private String token() {
        return pick("pew", "chapel", "attic", "door", "wind", "blow", "calendar", "every", "clean", "tithe", "or", "and", "not",
            "dust", "kind", "owner", "day", "rich", "brought", "x", ";", ";", "(", ")", "+", "-", "*", "/", "<", "=", "0", "1", "2",
            "5", "9", "10", "31", "99", "100", "999", "1000", "9999", "00000", "12345", "?", "A", "\t", "\u00ff", "\0", " ", "\n",
            "not not not not not not ", "((((((", "not not not not not not not ", "))))))", "pew 0 1 2;", "wind;");
    }

    private String spoilt(String text) {
        StringBuilder spoilt = new StringBuilder(text);
        for (int i = upTo(2); i >= 0; i--) {
            int at = upTo(spoilt.length());
            switch (upTo(3)) {
                case 0 -> spoilt.insert(at, token());
                case 1 -> spoilt.delete(at, Math.min(spoilt.length(), at + 1 + upTo(3)));
                case 2 -> spoilt.insert(at, " " + token() + " ");
                default -> {
                    int end = spoilt.indexOf(";", at);
                    spoilt.insert(end < 0 ? spoilt.length() : end + 1, token() + (upTo(1) == 0 ? ";" : " "));
                }
            }
        }
        return spoilt.toString();
    }

    /** Token behind token, most of them such as may follow. */
    private String tokens() {
        StringBuilder text = new StringBuilder(pick("", "pew 0 1 2;chapel 3 4 5;", "pew 0 1 2;pew 0 1 2;door 0 1 2;wind;"));
        text.append(pick("tithe ", "tithe ", "tithe ", "calendar ", "door ", "blow ", "attic "));
        for (int i = upTo(30); i > 0; i--) {
            text.append(upTo(20) == 0 ? token() : pick("(", "(", "(", ")", "not ", "not ", "dust ", "1 ", "2", " day ", "+", "-", "*", "/",
                "<", "=", " and ", " or ", " "));
        }
        return text.append(pick(";", "")).toString();
    }

    private void tell(String whole) {
        String text = whole.length() > 700 ? whole.substring(0, 700) : whole;
        for (int at = 0; at < text.length(); at += 20) {
            int[] five = new int[5];
            for (int i = 0; i < 20; i++) {
                five[i / 4] = five[i / 4] << 8 | (at + i < text.length() ? text.charAt(at + i) : 32);
            }
            both("feed", () -> x.feed(five[0], five[1], five[2], five[3], five[4]), () -> m.feed(five));
        }
        int n = upTo(60) == 0 ? upTo(text.length() + 40) - 10 : text.length();
        both("parish of " + text, () -> x.parish(n), () -> m.parish(n));
        both("fault of " + text, x::fault, m::fault);
    }

    // ---- calls ----

    private void both(String what, Check.Call one, Check.Call other) {
        CHECK.due(what, Check.ask(other), one);
    }

    private int room() {
        return upTo(30) == 0 ? upTo(12) - 2 : m.count(0) == 0 ? 0 : random.nextInt(m.count(0));
    }

    private int ahead() {
        return upTo(30) == 0 ? pickInt(-1, 100, Integer.MIN_VALUE, Integer.MAX_VALUE) : upTo(random.nextBoolean() ? 99 : 10);
    }

    private int pickInt(int... some) {
        return some[random.nextInt(some.length)];
    }

    /** As many ROOMS, DOORS, WINDS and numbers of the CALENDAR as can be, one ROOM without a DOOR, eight BLOWS of the last WIND. */
    private String greatest() {
        StringBuilder text = new StringBuilder();
        for (int i = 0; i < 9; i++) {
            text.append(pick("pew ", "chapel ", "attic ")).append(upTo(5)).append(' ').append(upTo(999)).append(' ').append(upTo(99)).append(';');
        }
        for (int i = 0; i < 14; i++) {
            text.append("door ").append(i < 7 ? "0 " + (i + 1) : i < 13 ? "1 " + (i - 5) : "2 3").append(' ').append(1 + upTo(8)).append(';');
        }
        for (int i = 0; i < 5; i++) {
            text.append("wind;blow ").append(i + 1).append(" 0 ").append(1 + upTo(8)).append(';');
        }
        for (int i = 1; i < 8; i++) {
            text.append("blow 0 ").append(i).append(" ").append(1 + upTo(8)).append(';');
        }
        return text + "calendar 0 1 2 3 4 5 4 3 2 4;" + pick("", "every 1;", "every 30;") + pick("", "clean 999;", "clean 0;");
    }

    private void calls() {
        for (int i = 0; i < 2; i++) {
            tell(upTo(5) == 0 ? spoilt(text()) : upTo(9) == 0 ? greatest() : text());
        }
        for (int i = 0; i < 120; i++) {
            switch (upTo(3)) {
                case 0 -> act(upTo(9));
                case 1 -> look(upTo(9));
                case 2 -> ask(upTo(9));
                default -> guess(upTo(8));
            }
        }
    }

    private void act(int which) {
        int a = room();
        int b = room();
        int many = upTo(20) == 0 ? pickInt(0, 31, -5, 30) : 1 + upTo(8);
        int much = upTo(9) == 0 ? pickInt(0, 999, 1000, -1, 99, 100) : 1 + upTo(40);
        int wind = upTo(6) - (upTo(9) == 0 ? 1 : 0);
        int place = upTo(10) - (upTo(9) == 0 ? 1 : 0);
        switch (which) {
            case 0, 1 -> both("days " + many, () -> x.days(many), () -> m.days(many));
            case 2, 3 -> both("sweep", () -> x.sweep(a, b, much), () -> m.sweep(a, b, much));
            case 4 -> both("shake", () -> x.shake(a, b), () -> m.shake(a, b));
            case 5 -> both("sneeze", () -> x.sneeze(a, much), () -> m.sneeze(a, much));
            case 6 -> both("plan", () -> x.plan(place, wind), () -> m.plan(place, wind));
            case 7 -> both("undo", x::undo, m::undo);
            case 8 -> {
                if (upTo(4) == 0) {
                    x.image();
                    m.image();
                }
            }
            default -> {
                if (upTo(9) == 0) {
                    both("restore", () -> x.restore() ? 1 : 0, m::restore);
                } else {
                    both("days", () -> x.days(1), () -> m.days(1));
                }
            }
        }
    }

    private void look(int which) {
        int a = room();
        int b = room();
        int n = upTo(19) - 1;
        int what = upTo(9) - 1;
        int far = upTo(9) == 0 ? pickInt(Integer.MIN_VALUE, Integer.MAX_VALUE, -1) : upTo(25);
        switch (which) {
            case 0, 1, 2 -> both("count " + n, () -> x.count(n), () -> m.count(n));
            case 3, 4, 5 -> both("room " + a + " " + what, () -> x.room(a, what), () -> m.room(a, what));
            case 6 -> both("far", () -> x.far(a, b), () -> m.far(a, b));
            case 7 -> both("near", () -> x.near(a, far), () -> m.near(a, far));
            case 8 -> both("blow", () -> x.blow(a, n % 9, what), () -> m.blow(a, n % 9, what));
            default -> both("wind", () -> x.wind(far), () -> m.wind(far));
        }
    }

    private void ask(int which) {
        int a = room();
        int b = room();
        int days = ahead();
        int much = upTo(9) == 0 ? pickInt(-1, 10000, 9999) : upTo(random.nextBoolean() ? 300 : 3000);
        switch (which) {
            case 0 -> both("then " + days, () -> x.then(a, days), () -> m.then(a, days));
            case 1 -> both("taken " + days, () -> x.taken(days), () -> m.taken(days));
            case 2 -> both("thick " + much, () -> x.thick(a, much), () -> m.thick(a, much));
            case 3 -> both("heresy", x::heresy, m::heresy);
            case 4 -> both("poorest " + days, () -> x.poorest(days), () -> m.poorest(days));
            case 5 -> both("fullest " + days, () -> x.fullest(days), () -> m.fullest(days));
            case 6 -> both("change " + days, () -> x.change(days), () -> m.change(days));
            case 7 -> both("often " + days, () -> x.often(days), () -> m.often(days));
            case 8 -> both("lost " + days, () -> x.lost(days), () -> m.lost(days));
            default -> both("from", () -> x.from(a, b, days % 11), () -> m.from(a, b, days % 11));
        }
    }

    private void guess(int which) {
        int a = room();
        int i = upTo(6) - 2;
        int bits = upTo(20) == 0 ? pickInt(-1, 512, Integer.MIN_VALUE) : upTo((1 << m.count(0)) - 1);
        int one = upTo(20) == 0 ? pickInt(-1, 6) : upTo(5);
        int other = upTo(5);
        int what = upTo(20) == 0 ? pickInt(-1, 3) : upTo(2);
        int seed = random.nextInt();
        int n = upTo(20) == 0 ? pickInt(-1, 61) : upTo(60);
        switch (which) {
            case 0 -> both("order", () -> x.order(a, i), () -> m.order(a, i));
            case 1 -> both("alms", x::alms, m::alms);
            case 2 -> both("round " + a + " " + bits, () -> x.round(a, bits), () -> m.round(a, bits));
            case 3 -> {
                // All ways to share are tried by the Model, so seldom for many rooms.
                if (m.count(0) < 7 || upTo(9) == 0) {
                    both("shares", () -> x.shares(one), () -> m.shares(one));
                }
            }
            case 4 -> both("lend", () -> x.lend(a), () -> m.lend(a));
            case 5 -> both("riches", () -> x.riches(one), () -> m.riches(one));
            case 6 -> sights(a, what);
            case 7 -> both("game", () -> x.game(one, other, what), () -> m.game(one, other, what));
            default -> both("years " + seed + " " + n, () -> x.years(seed, n, what), () -> m.years(seed, n, what));
        }
    }

    /** Mostly such as would be seen if a hand had been there, else no hand would ever be found. */
    private void sights(int room, int what) {
        if (upTo(3) == 0) {
            x.forget();
            m.forget();
        }
        if (upTo(9) == 0) {
            int days = upTo(32) - 1;
            int much = upTo(10001) - 1;
            both("see", () -> x.see(room, days, much), () -> m.see(room, days, much));
        } else if (m.count(0) > 0) {
            int thief = random.nextInt(m.count(0));
            int where = random.nextInt(m.count(0));
            int days = upTo(random.nextBoolean() ? 30 : 4);
            boolean stolen = Check.ask(() -> m.sneeze(thief, 1 + upTo(20))) >= 0;
            int much = m.then(where, days);
            if (stolen) {
                int status = m.undo();
                both("sneeze to be undone", () -> {
                    x.sneeze(thief, 1);
                    return x.undo();
                }, () -> status);
            }
            both("see", () -> x.see(where, days, much), () -> m.see(where, days, much));
        }
        both("hand " + what, () -> x.hand(what), () -> m.hand(what));
    }
}
