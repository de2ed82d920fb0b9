/** Promises 17 to 20, 26 to 28, 30, 32: if only days go by. */
public final class ForecastTest {
    private static final Check CHECK = new Check("ForecastTest");
    private static final String PARISH =
        "pew 0 100 10;chapel 1 40 5;attic 1 5 3;door 0 1 2;door 1 2 3;wind;blow 0 1 5;blow 1 2 2;wind;blow 2 1 9;"
        + "calendar 0 5 1;every 2;clean 30;tithe dust/4+brought;";

    public static void main(String[] args) {
        sameAsDays();
        wrongDays();
        thick();
        heresy();
        poorest();
        fullest();
        change();
        often();
        lost();
        CHECK.end();
    }

    private static void sameAsDays() {
        DustParish x = Check.told(PARISH);
        x.sweep(0, 1, 20);
        int[] then = new int[4];
        for (int days = 1; days <= 30; days++) {
            for (int room = 0; room < 3; room++) {
                then[room] = x.then(room, days);
            }
            then[3] = x.taken(days);
            int many = days;
            CHECK.due("days", days, () -> x.days(many));
            for (int room = 0; room < 3; room++) {
                int where = room;
                CHECK.due("then " + days + " in " + room, x.room(room, 2), () -> then[where]);
            }
            CHECK.due("taken " + days, x.count(8), () -> then[3]);
            CHECK.due("undone", 1, x::undo);
        }
        CHECK.due("then 0", 80, () -> x.then(0, 0));
        CHECK.due("taken 0", 0, () -> x.taken(0));
        CHECK.due("day stays", 0, () -> x.count(6));
        CHECK.due("brought stays", 20, () -> x.room(1, 4));
        DustParish y = Check.told(PARISH);
        CHECK.due("taken from now", 38, () -> y.taken(2));
        y.days(2);
        CHECK.due("taken so far is none of it", 0, () -> y.taken(1));
    }

    private static void wrongDays() {
        DustParish x = Check.told(PARISH);
        int[] wrong = {-1, 100, Integer.MAX_VALUE, Integer.MIN_VALUE};
        for (int days : wrong) {
            CHECK.badArgument("then " + days, () -> x.then(0, days));
            CHECK.noSuch("then of none " + days, () -> x.then(3, days));
            CHECK.badArgument("taken " + days, () -> x.taken(days));
            CHECK.badArgument("poorest " + days, () -> x.poorest(days));
            CHECK.badArgument("fullest " + days, () -> x.fullest(days));
            CHECK.badArgument("change " + days, () -> x.change(days));
            CHECK.badArgument("often " + days, () -> x.often(days));
            CHECK.badArgument("lost " + days, () -> x.lost(days));
            CHECK.badArgument("poorest without rooms " + days, () -> new DustParish().poorest(days));
        }
        CHECK.due("then 99", x.then(0, 99), () -> x.then(0, 99));
        CHECK.badArgument("thick -1", () -> x.thick(0, -1));
        CHECK.badArgument("thick 10000", () -> x.thick(0, 10000));
        CHECK.noSuch("thick of none", () -> x.thick(3, -1));
        CHECK.noSuch("thick of -1", () -> x.thick(-1, 5));
    }

    private static void thick() {
        DustParish x = Check.told("pew 0 100 10;attic 0 0 99;pew 0 0 1;tithe 0;");
        CHECK.due("now", 0, () -> x.thick(0, 100));
        CHECK.due("of 0", 0, () -> x.thick(2, 0));
        CHECK.due("in a day", 1, () -> x.thick(0, 101));
        CHECK.due("in a day", 1, () -> x.thick(0, 110));
        CHECK.due("in two", 2, () -> x.thick(0, 111));
        CHECK.due("in 51", 51, () -> x.thick(1, 9999));
        CHECK.due("in 99", 99, () -> x.thick(2, 99));
        CHECK.due("in 100", -1, () -> x.thick(2, 100));
    }

    private static void heresy() {
        CHECK.due("none without rooms", -1, () -> new DustParish().heresy());
        CHECK.due("now", 0, () -> Check.told("pew 0 9 0;").heresy());
        CHECK.due("an attic counts for nothing", -1, () -> Check.told("attic 0 0 0;").heresy());
        CHECK.due("never", -1, () -> Check.told("pew 0 10 0;tithe 0;").heresy());
        CHECK.due("on a tithe day", 7, () -> Check.told("pew 0 99 0;chapel 3 10 0;").heresy());
        CHECK.due("in 99", 99, () -> Check.told("pew 0 999 0;clean 901;every 1;tithe 1;").heresy());
        CHECK.due("in 100", -1, () -> Check.told("pew 0 999 0;clean 900;every 1;tithe 1;").heresy());
        CHECK.due("of the example", 4, () -> Check.told(PARISH).heresy());
    }

    private static void poorest() {
        CHECK.due("none", -1, () -> new DustParish().poorest(0));
        DustParish x = Check.told("pew 0 20 1;pew 0 10 3;attic 0 10 1;tithe 0;");
        CHECK.due("the least of like ones", 1, () -> x.poorest(0));
        CHECK.due("in a day", 2, () -> x.poorest(1));
        CHECK.due("in 10", 0, () -> x.poorest(11));
        CHECK.due("in 99", 0, () -> x.poorest(99));
        CHECK.due("like ones in 10", 0, () -> x.poorest(10));
    }

    private static void fullest() {
        CHECK.due("without rooms", 0, () -> new DustParish().fullest(99));
        DustParish x = Check.told("pew 0 20 10;attic 0 10 1;every 3;tithe dust;");
        CHECK.due("of 0", 0, () -> x.fullest(0));
        CHECK.due("of 1", 1, () -> x.fullest(1));
        CHECK.due("of 2", 2, () -> x.fullest(2));
        CHECK.due("of 3", 2, () -> x.fullest(3));
        CHECK.due("of 99", 2, () -> x.fullest(99));
        DustParish like = Check.told("pew 0 0 10;every 2;tithe dust;");
        CHECK.due("the first of like ones", 1, () -> like.fullest(99));
        CHECK.due("nothing changes", 0, () -> Check.told("pew 0 5 0;tithe 0;").fullest(50));
    }

    private static void change() {
        CHECK.due("without a calendar", -1, () -> Check.told("pew 0 999 9;").change(99));
        CHECK.due("of the example", 2, () -> Check.told(PARISH).change(2));
        CHECK.due("of no days", -1, () -> Check.told(PARISH).change(0));
        String halves = "pew 0 100 0;pew 1 0 0;pew 2 0 0;door 0 1 1;door 0 2 1;wind;blow 0 1 5;wind;blow 0 2 9;";
        // Owner 1's room alone is tithed, on day 2.
        String rule = "every 3;tithe (owner=1)*dust;";
        DustParish x = Check.told(halves + "calendar 1 0 5 0 5;" + rule);
        // Places 0 and 3: by 0 0 5 there are 75 in it; places 0 and 1: by 0 1 5 only 50.
        CHECK.due("the best", 3, () -> x.change(3));
        CHECK.due("the calendar stays", 1, () -> x.wind(0));
        DustParish y = Check.told(halves + "calendar 0 0 0 0 0;" + rule);
        CHECK.due("of like numbers", -1, () -> y.change(99));
        DustParish z = Check.told(halves + "calendar 5 5 5 0;" + rule);
        CHECK.due("the first of like ones", 3, () -> z.change(3));
        DustParish w = Check.told(halves + "calendar 5 5 5 5 5 5 5 5 0 5;every 9;tithe (owner=1)*dust;");
        CHECK.due("without is as good", -1, () -> w.change(9));
        CHECK.due("an act", 9, () -> {
            w.plan(8, 5);
            w.plan(9, 0);
            return w.change(9);
        });
        DustParish v = Check.told(halves + "calendar 5 5 5 5 5 5 5 5 5 0;every 9;tithe (owner=1)*dust*(8<day);");
        CHECK.due("none in time", -1, () -> v.change(9));
        DustParish u = Check.told(halves + "calendar 1 5 0 5 5 5 5 5 5 5;every 2;tithe (owner=1)*dust;");
        CHECK.due("two numbers of the calendar", 2, () -> u.change(2));
        DustParish t = Check.told(halves + "calendar 5 1 5 0 5 5 5 5 5 5;every 2;tithe (owner=1)*dust;");
        CHECK.due("the greater one behind", 3, () -> t.change(2));
        DustParish s = Check.told(halves + "calendar 0 1 5 0 5 5 5 5 5 5;every 2;tithe (owner=1)*dust;");
        CHECK.due("the lesser place first", 13, () -> s.change(2));
        DustParish r = Check.told(halves + "calendar 5 0;every 1;tithe (owner=1)*dust;");
        CHECK.due("side by side", 1, () -> r.change(1));
    }

    private static void often() {
        CHECK.due("without rooms", 1, () -> new DustParish().often(99));
        DustParish x = Check.told("pew 0 100 10;every 30;tithe 1+(day=4)*500;");
        CHECK.due("in no days", 1, () -> x.often(0));
        CHECK.due("in 4", 1, () -> x.often(4));
        // Each time 1, but on day 4 all: 5 days once, or each day.
        CHECK.due("in 5", 1, () -> x.often(5));
        DustParish y = Check.told("pew 0 100 10;every 30;tithe (day=4)*500+(day<4)*1;");
        CHECK.due("all the same: the least", 1, () -> y.often(99));
        DustParish z = Check.told("pew 0 900 0;every 1;tithe (day=29)*900+(day=4)*800+(day<4)*200;");
        CHECK.due("days that count", 1, () -> z.often(30));
        DustParish w = Check.told("pew 0 900 0;pew 0 0 0;wind;door 0 1 1;blow 0 1 9;calendar 0 5;every 1;tithe (brought<1)*(day=29)*dust;");
        CHECK.due("brought counts since the last", 1, () -> w.often(30));
        w.sweep(0, 1, 100);
        CHECK.due("brought is forgotten each time", 1, () -> w.often(30));
        DustParish v = Check.told("pew 0 100 0;pew 1 0 0;door 0 1 1;every 1;tithe brought*(day=5);");
        v.sweep(0, 1, 60);
        CHECK.due("as brought on day 5", 6, () -> v.often(9));
        CHECK.due("day 5 is the sixth", 6, () -> v.often(6));
        CHECK.due("ahead of day 5", 1, () -> v.often(5));
        DustParish u = Check.told("pew 0 100 0;pew 1 0 0;door 0 1 1;every 1;tithe brought*(day=29);");
        u.sweep(0, 1, 60);
        CHECK.due("as brought on day 29", 30, () -> u.often(99));
    }

    private static void lost() {
        CHECK.due("without rooms", 0, () -> new DustParish().lost(99));
        DustParish x = Check.told(PARISH);
        CHECK.due("of no days", 0, () -> x.lost(0));
        CHECK.due("to a chapel", 28, () -> x.lost(1));
        CHECK.due("taken is not lost", 28, () -> x.lost(2));
        DustParish y = Check.told("attic 0 999 99;tithe 0;");
        // 59, 66, 3; then 69, 71, 9 and 34 go, of which 17 come.
        CHECK.due("taken ahead is none of it", 17, () -> {
            x.days(3);
            return x.lost(1);
        });
        CHECK.due("not yet", 0, () -> y.lost(45));
        CHECK.due("above the most", 999 + 99 * 198 - 9999, () -> y.lost(99));
    }
}
