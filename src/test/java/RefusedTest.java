import java.util.ArrayList;
import java.util.List;
import java.util.function.Supplier;
import java.util.function.ToLongFunction;

/**
 * A call that is refused, or that only asks, leaves all as it was: two objects of one past, of which one has had
 * the call, answer alike ever after, by all that can be asked, by undoing, by the image and by the tape.
 */
public final class RefusedTest {
    private static final Check CHECK = new Check("RefusedTest");
    private static final int NO_STATUS = -1;
    private static final int TEXTS = 0;
    private static final int ACTS = 1;
    private static final int SIGHTS = 2;
    private static final int LEAST = Integer.MIN_VALUE;
    private static final int MOST = Integer.MAX_VALUE;
    private static final String PARISH = "pew 0 300 10;chapel 1 240 5;attic 1 5 3;door 0 1 2;door 1 2 3;wind;blow 0 1 5;blow 1 2 2;"
        + "wind;blow 2 1 9;calendar 0 5 1;every 2;clean 30;tithe dust/4+brought;";

    private record Row(String name, long due, int status, ToLongFunction<DustParish> call) {
    }

    private static final List<Row> ROWS = new ArrayList<>();

    public static void main(String[] args) {
        List<Supplier<DustParish>> lives = List.of(RefusedTest::lived, RefusedTest::full);
        for (Supplier<DustParish> life : lives) {
            ROWS.clear();
            refusedActs();
            refusedSights();
            refusedQuestions();
            refusedRooms();
            questions();
            tryAll(life);
            ROWS.clear();
            questions();
            questionsBehindQuestions(life);
        }
        ROWS.clear();
        fullAlone();
        tryAll(RefusedTest::full);
        ROWS.clear();
        nothingThere();
        tryAll(DustParish::new);
        faults();
        CHECK.end();
    }

    // ---- pasts ----

    /** Something of all: acts, sights, refused calls, an image that is not as all is now, a tape, a fault. */
    private static DustParish lived() {
        DustParish x = Check.told(PARISH);
        x.sweep(0, 1, 60);
        x.sneeze(0, 7);
        x.see(0, 1, 4);
        x.days(0);
        x.see(0, 31, 4);
        x.image();
        x.days(3);
        x.shake(1, 2);
        x.plan(1, 0);
        x.see(1, 2, 30);
        x.days(0);
        x.see(0, 31, 4);
        Check.tell(x, "every 2;every 3;");
        Check.feed(x, "pew 3 77 7;door 0 0 1;");
        return x;
    }

    /** The last day, eight sights, forty acts, a tape of 700 bytes, an image of the same. */
    private static DustParish full() {
        DustParish x = Check.told(PARISH);
        for (int i = 0; i < 33; i++) {
            x.days(30);
        }
        x.days(9);
        for (int i = 0; i < 9; i++) {
            x.sneeze(i % 3, 1 + i);
        }
        for (int i = 0; i < 8; i++) {
            x.see(0, i, x.then(0, i));
        }
        x.image();
        for (int i = 0; i < 35; i++) {
            x.feed(0x636c6561, 0x6e203939, 0x393b2020, 0x20202020, 0x20202020 + i);
        }
        return x;
    }

    // ---- what is compared ----

    private static void look(DustParish x, int[] refused, boolean withTape, List<Long> into) {
        for (int i = 0; i < 17; i++) {
            int what = i;
            if (withTape || i != 13) {
                into.add(Check.ask(() -> x.count(what)) - (i >= 14 ? refused[i - 14] : 0));
            }
        }
        if (withTape) {
            into.add(Check.ask(x::fault));
        }
        for (int i = 0; i < 21; i++) {
            int at = i;
            into.add(Check.ask(() -> x.room(at / 7, at % 7)));
        }
        for (int i = 0; i < 3; i++) {
            int at = i;
            into.add(Check.ask(() -> x.wind(at)));
            into.add(Check.ask(() -> x.hand(at)));
            into.add(Check.ask(() -> x.blow(0, at - 1, 1)));
            into.add(Check.ask(() -> x.far(0, at)));
        }
        into.add(Check.ask(() -> x.then(0, 5)));
        into.add(Check.ask(() -> x.taken(9)));
    }

    private static void undoAll(DustParish x, List<Long> into) {
        for (int i = 0; i <= 40; i++) {
            into.add(Check.ask(x::undo));
            into.add(Check.ask(() -> x.count(7)));
            into.add(Check.ask(() -> x.room(0, 2)));
            into.add(Check.ask(() -> x.room(1, 4)));
            into.add(Check.ask(() -> x.wind(1)));
            into.add(Check.ask(() -> x.count(8)));
        }
    }

    /** All that an object answers ever after, going on by nothing, by undoing, by the image or by the tape; less what was refused. */
    private static List<Long> after(DustParish x, int way, int[] refused, boolean withTape) {
        List<Long> all = new ArrayList<>();
        look(x, refused, withTape, all);
        if (way == 1) {
            undoAll(x, all);
        }
        if (way == 2) {
            boolean had = x.restore();
            all.add(had ? 1L : 0);
            look(x, had ? new int[3] : refused, withTape, all);
            undoAll(x, all);
        }
        if (way == 3) {
            all.add(Check.ask(() -> x.parish(x.count(13))));
            look(x, refused, withTape, all);
        }
        return all;
    }

    private static void tryAll(Supplier<DustParish> life) {
        for (Row row : ROWS) {
            int[] refused = new int[3];
            if (row.status() != NO_STATUS) {
                refused[row.status()] = 1;
            }
            for (int way = 0; way < 4; way++) {
                DustParish x = life.get();
                DustParish twin = life.get();
                long answer = Check.ask(() -> row.call().applyAsLong(x));
                if (row.due() != Check.OTHER) {
                    CHECK.due(row.name(), row.due(), () -> answer);
                }
                alike(row.name() + ", way " + way, after(twin, way, new int[3], true), after(x, way, refused, true));
            }
        }
    }

    /** What one question leaves in rows that are used again is nothing to the next one. */
    private static void questionsBehindQuestions(Supplier<DustParish> life) {
        for (Row first : ROWS) {
            for (Row second : ROWS) {
                long due = Check.ask(() -> second.call().applyAsLong(life.get()));
                DustParish x = life.get();
                Check.ask(() -> first.call().applyAsLong(x));
                CHECK.due(second.name() + " behind " + first.name(), due, () -> second.call().applyAsLong(x));
            }
        }
    }

    private static void alike(String name, List<Long> due, List<Long> got) {
        CHECK.due(name + ": as many answers", due.size(), got::size);
        for (int i = 0; i < Math.min(due.size(), got.size()); i++) {
            int at = i;
            CHECK.due(name + ": answer " + i, due.get(i), () -> got.get(at));
        }
    }

    // ---- calls ----

    private static void row(String name, long due, int status, ToLongFunction<DustParish> call) {
        ROWS.add(new Row(name, due, status, call));
    }

    private static void act(String name, ToLongFunction<DustParish> call) {
        row(name, -1, ACTS, call);
    }

    private static void noSuch(String name, ToLongFunction<DustParish> call) {
        row(name, Check.NO_SUCH, NO_STATUS, call);
    }

    private static void bad(String name, ToLongFunction<DustParish> call) {
        row(name, Check.BAD_ARGUMENT, NO_STATUS, call);
    }

    private static void asks(String name, ToLongFunction<DustParish> call) {
        row(name, Check.OTHER, NO_STATUS, call);
    }

    private static void refusedActs() {
        act("days 0", x -> x.days(0));
        act("days -1", x -> x.days(-1));
        act("days 31", x -> x.days(31));
        act("days most", x -> x.days(MOST));
        act("sweep without a door", x -> x.sweep(0, 2, 1));
        act("sweep into itself", x -> x.sweep(0, 0, 1));
        act("sweep 0", x -> x.sweep(0, 1, 0));
        act("sweep 1000", x -> x.sweep(0, 1, 1000));
        act("sweep more than lies there", x -> x.sweep(0, 1, x.room(0, 2) + 1));
        act("shake without a door", x -> x.shake(2, 0));
        act("shake into itself", x -> x.shake(1, 1));
        act("sneeze 0", x -> x.sneeze(0, 0));
        act("sneeze 100", x -> x.sneeze(0, 100));
        act("plan place -1", x -> x.plan(-1, 0));
        act("plan place 3", x -> x.plan(3, 0));
        act("plan wind 2", x -> x.plan(0, 2));
        act("plan wind -1", x -> x.plan(0, -1));
        act("plan wind 6", x -> x.plan(0, 6));
    }

    private static void refusedSights() {
        row("see days -1", -1, SIGHTS, x -> x.see(0, -1, 5));
        row("see days 31", -1, SIGHTS, x -> x.see(0, 31, 5));
        row("see much -1", -1, SIGHTS, x -> x.see(0, 0, -1));
        row("see much 10000", -1, SIGHTS, x -> x.see(0, 0, 10000));
    }

    private static void refusedQuestions() {
        bad("parish -1", x -> x.parish(-1));
        bad("parish of more than the tape has", x -> x.parish(x.count(13) + 1));
        noSuch("count -1", x -> x.count(-1));
        noSuch("count 17", x -> x.count(17));
        noSuch("room what 7", x -> x.room(0, 7));
        noSuch("blow of wind 2", x -> x.blow(2, 0, 0));
        noSuch("blow 2", x -> x.blow(0, 2, 0));
        noSuch("blow what 3", x -> x.blow(0, -1, 3));
        bad("wind -1", x -> x.wind(-1));
        bad("wind 10000", x -> x.wind(10000));
        for (int days : new int[] {-1, 100, LEAST, MOST}) {
            bad("then " + days, x -> x.then(0, days));
            bad("taken " + days, x -> x.taken(days));
            bad("poorest " + days, x -> x.poorest(days));
            bad("fullest " + days, x -> x.fullest(days));
            bad("change " + days, x -> x.change(days));
            bad("often " + days, x -> x.often(days));
            bad("lost " + days, x -> x.lost(days));
        }
        bad("thick -1", x -> x.thick(0, -1));
        bad("thick 10000", x -> x.thick(0, 10000));
        noSuch("order 2", x -> x.order(0, 2));
        noSuch("order -2", x -> x.order(0, -2));
        bad("round 8", x -> x.round(0, 8));
        bad("round -1", x -> x.round(0, -1));
        bad("shares 0", x -> x.shares(0));
        bad("shares 5", x -> x.shares(5));
        bad("from -1", x -> x.from(0, 1, -1));
        bad("from 10", x -> x.from(0, 1, 10));
        noSuch("riches -1", x -> x.riches(-1));
        noSuch("riches 6", x -> x.riches(6));
        noSuch("hand -1", x -> x.hand(-1));
        noSuch("hand 3", x -> x.hand(3));
        noSuch("game what 2", x -> x.game(0, 1, 2));
        bad("game of owner 6", x -> x.game(0, 6, 0));
        bad("game of one", x -> x.game(1, 1, 0));
        noSuch("years what 3", x -> x.years(1, 5, 3));
        bad("years 61", x -> x.years(1, 61, 0));
        bad("years -1", x -> x.years(1, -1, 0));
    }

    private static void refusedRooms() {
        for (int room : new int[] {-1, 3}) {
            noSuch("room " + room, x -> x.room(room, 0));
            noSuch("far " + room, x -> x.far(0, room));
            noSuch("near " + room, x -> x.near(room, 9));
            noSuch("sweep from " + room, x -> x.sweep(room, 0, 0));
            noSuch("sweep into " + room, x -> x.sweep(0, room, 1));
            noSuch("shake of " + room, x -> x.shake(room, 0));
            noSuch("shake into " + room, x -> x.shake(0, room));
            noSuch("sneeze in " + room, x -> x.sneeze(room, 0));
            noSuch("then of " + room, x -> x.then(room, 100));
            noSuch("thick of " + room, x -> x.thick(room, -1));
            noSuch("order for " + room, x -> x.order(room, -1));
            noSuch("round from " + room, x -> x.round(room, 8));
            noSuch("from " + room, x -> x.from(room, 0, 10));
            noSuch("from into " + room, x -> x.from(0, room, 10));
            noSuch("lend " + room, x -> x.lend(room));
            noSuch("see in " + room, x -> x.see(room, 31, -1));
        }
    }

    private static void questions() {
        asks("fault", x -> x.fault());
        asks("count", x -> x.count(10));
        asks("room", x -> x.room(1, 5));
        asks("far", x -> x.far(0, 2));
        asks("near", x -> x.near(0, 2));
        asks("blow", x -> x.blow(0, 1, 2));
        asks("wind", x -> x.wind(9999));
        asks("then", x -> x.then(1, 99));
        asks("taken", x -> x.taken(99));
        asks("thick", x -> x.thick(2, 9999));
        asks("heresy", x -> x.heresy());
        asks("order", x -> x.order(2, -1));
        asks("order's first", x -> x.order(2, 0));
        asks("alms", x -> x.alms());
        asks("round", x -> x.round(0, 7));
        asks("shares", x -> x.shares(2));
        asks("from", x -> x.from(0, 2, 9));
        asks("poorest", x -> x.poorest(99));
        asks("fullest", x -> x.fullest(99));
        asks("change", x -> x.change(99));
        asks("lend", x -> x.lend(0));
        asks("often", x -> x.often(99));
        asks("riches", x -> x.riches(1));
        asks("lost", x -> x.lost(99));
        asks("how many hands", x -> x.hand(0));
        asks("the first hand", x -> x.hand(1));
        asks("without a hand", x -> x.hand(2));
        asks("game", x -> x.game(0, 1, 0));
        asks("game's first", x -> x.game(0, 1, 1));
        asks("years", x -> x.years(5, 60, 0));
        asks("years' heretics", x -> x.years(5, 60, 1));
        asks("years' most", x -> x.years(5, 60, 2));
    }

    private static void fullAlone() {
        row("feed of a full tape", -1, NO_STATUS, x -> x.feed(0x3f3f3f3f, 1, 2, 3, 4));
        row("a ninth sight", -1, SIGHTS, x -> x.see(0, 0, 5));
        act("a day behind the last", x -> x.days(1));
        act("30 days behind the last", x -> x.days(30));
    }

    private static void nothingThere() {
        row("undo", -1, NO_STATUS, x -> x.undo());
        row("restore", 0, NO_STATUS, x -> x.restore() ? 1 : 0);
        bad("parish 1", x -> x.parish(1));
        act("days 0", x -> x.days(0));
        act("plan", x -> x.plan(0, 5));
        noSuch("room", x -> x.room(0, 0));
        noSuch("sweep", x -> x.sweep(0, 1, 1));
        noSuch("shake", x -> x.shake(0, 1));
        noSuch("sneeze", x -> x.sneeze(0, 1));
        noSuch("see", x -> x.see(0, 0, 0));
        noSuch("lend", x -> x.lend(0));
        noSuch("blow", x -> x.blow(0, -1, 0));
        row("poorest", -1, NO_STATUS, x -> x.poorest(99));
        row("heresy", -1, NO_STATUS, x -> x.heresy());
        row("change", -1, NO_STATUS, x -> x.change(99));
        row("alms", 0, NO_STATUS, x -> x.alms());
        row("years", 0, NO_STATUS, x -> x.years(5, 60, 2));
        row("hand", -1, NO_STATUS, x -> x.hand(1));
        row("game", -1, NO_STATUS, x -> x.game(0, 5, 1));
    }

    /** A text with a FAULT: all stays but STATUS, the place of the FAULT and the tape, which is empty. */
    private static void faults() {
        String[] texts = {"x", "pew 6", "door 3 0 1;", "pew 0 1 2;door 0 0 1;", "every 1;every", "pew 0 0 0;pew 0 0 0;wind;blow 0 1 1;",
            PARISH + "tithe 5;", "pew 5 999 99;".repeat(9) + "wind;".repeat(5) + "calendar 4 4 4 4 4 4 4 4 4 4;every 30;clean 999;tithe 0"};
        for (String text : texts) {
            for (int way = 0; way < 3; way++) {
                DustParish x = lived();
                DustParish twin = lived();
                CHECK.due("the tape as it is has a fault", 4, () -> x.parish(22));
                CHECK.due("a text with a fault: " + text, 1, () -> Check.tell(x, text) > 0 ? 1 : 0);
                CHECK.due("the tape is empty", 0, () -> x.count(13));
                int[] refused = new int[3];
                refused[TEXTS] = 2;
                alike("fault of " + text + ", way " + way, after(twin, way, new int[3], false), after(x, way, refused, false));
            }
        }
    }
}
