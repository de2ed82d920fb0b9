/** Promises 21 to 25, 29, 31: the order of winds, alms, rounds, shares, grains, loans, riches. */
public final class BestTest {
    private static final Check CHECK = new Check("BestTest");

    public static void main(String[] args) {
        order();
        alms();
        round();
        shares();
        from();
        lend();
        riches();
        CHECK.end();
    }

    private static void order(String what, DustParish x, int room, int much, int... row) {
        CHECK.due(what + ": how much", much, () -> x.order(room, -1));
        for (int i = 0; i < row.length; i++) {
            int at = i;
            CHECK.due(what + ": wind " + i, row[i], () -> x.order(room, at));
        }
        CHECK.noSuch(what + ": behind the row", () -> x.order(room, row.length));
        CHECK.noSuch(what + ": -2", () -> x.order(room, -2));
    }

    private static void order() {
        order("no winds", Check.told("pew 0 55 7;every 1;tithe dust;"), 0, 55);
        String rooms = "pew 0 100 0;pew 1 0 0;pew 2 0 0;door 0 1 1;door 1 2 1;every 30;";
        String winds = "wind;blow 1 2 9;wind;blow 0 1 9;";
        order("there and on", Check.told(rooms + winds), 2, 81, 1, 0);
        order("to the middle", Check.told(rooms + winds + "calendar 5 5 5;"), 1, 90, 0, 1);
        order("like ones", Check.told(rooms + winds), 0, 10, 0, 1);
        order("three", Check.told(rooms + "wind;blow 1 2 9;" + winds), 2, 89, 2, 0, 1);
        order("five", Check.told(rooms + "wind;blow 1 2 1;wind;blow 0 1 1;wind;blow 1 2 9;wind;blow 1 0 5;wind;blow 0 1 9;"),
            2, 82, 1, 0, 4, 2, 3);
        // Each day a tithe: what comes late to owner 2 is taken less often.
        order("with tithes", Check.told(rooms.replace("30", "1") + "tithe (owner=2)*dust/2;wind;wind;wind;blow 0 1 9;blow 1 2 9;"),
            2, 41, 0, 1, 2);
        DustParish x = Check.told(rooms.replace("30", "3") + "tithe (owner=2)*dust/2;wind;wind;blow 0 1 9;blow 1 2 9;");
        x.days(2);
        order("tithes by the day", x, 2, 81, 0, 1);
        CHECK.noSuch("no such room", () -> x.order(3, -1));
        CHECK.noSuch("no such room", () -> x.order(-1, 0));
        CHECK.due("nothing changes", 2, () -> x.count(6));
        order("settling days", Check.told("pew 0 0 7;wind;wind;wind;wind;wind;every 30;"), 0, 35, 0, 1, 2, 3, 4);
    }

    private static void alms() {
        CHECK.due("no rooms", 0, () -> new DustParish().alms());
        CHECK.due("ten by itself", 10 + 1, () -> Check.told("pew 0 0 0;chapel 1 9 0;pew 1 10 0;attic 0 0 0;").alms());
        CHECK.due("of clean 0", 0, () -> Check.told("pew 0 0 0;clean 0;").alms());
        CHECK.due("of clean 999", 999 + 1, () -> Check.told("pew 0 0 0;chapel 2 998 0;pew 1 999 0;clean 999;").alms());
    }

    private static void round() {
        DustParish x = Check.told("pew 0 0 0;pew 0 0 0;pew 0 0 0;pew 0 0 0;pew 0 0 0;"
            + "door 0 1 1;door 0 2 2;door 2 3 5;door 1 3 9;");
        CHECK.due("nowhere", 0, () -> x.round(0, 0));
        CHECK.due("itself", 0, () -> x.round(0, 1));
        CHECK.due("one", 1, () -> x.round(0, 2));
        CHECK.due("itself and one", 1, () -> x.round(0, 3));
        // 0 1 0 2 3: 1 + 1 + 2 + 5.
        CHECK.due("all that are near", 9, () -> x.round(0, 15));
        CHECK.due("all but itself", 9, () -> x.round(0, 14));
        CHECK.due("from an end", 1 + 2 + 5, () -> x.round(1, 13));
        CHECK.due("through others", 8, () -> x.round(1, 8));
        CHECK.due("from the middle", 2 + 1 + 8, () -> x.round(2, 10));
        CHECK.due("no way", -1, () -> x.round(0, 16));
        CHECK.due("no way to one", -1, () -> x.round(0, 31));
        CHECK.due("alone", 0, () -> x.round(4, 16));
        CHECK.due("out of it", -1, () -> x.round(4, 1));
        CHECK.badArgument("room 5", () -> x.round(0, 32));
        CHECK.badArgument("room 31", () -> x.round(0, Integer.MIN_VALUE));
        CHECK.badArgument("-1", () -> x.round(0, -1));
        CHECK.noSuch("from none", () -> x.round(5, 32));
        CHECK.noSuch("from -1", () -> x.round(-1, 0));
        DustParish y = Check.told("pew 0 0 0;".repeat(9) + "door 0 1 1;door 0 2 2;door 0 3 3;door 0 4 4;door 0 5 5;door 0 6 6;door 0 7 7;door 0 8 8;");
        CHECK.due("a star", 2 * 36 - 8, () -> y.round(0, 511));
        CHECK.due("from a point", 2 * 36 - 8 - 7, () -> y.round(7, 511));
    }

    private static void shares() {
        CHECK.due("no rooms", 0, () -> new DustParish().shares(4));
        DustParish x = Check.told("pew 0 7 0;chapel 0 6 0;attic 0 5 0;pew 1 4 0;pew 2 3 0;pew 2 3 0;");
        CHECK.due("one", 28, () -> x.shares(1));
        CHECK.due("two", 14, () -> x.shares(2));
        CHECK.due("three", 10, () -> x.shares(3));
        CHECK.due("four", 8, () -> x.shares(4));
        CHECK.badArgument("0", () -> x.shares(0));
        CHECK.badArgument("5", () -> x.shares(5));
        CHECK.badArgument("-1", () -> x.shares(-1));
        DustParish y = Check.told("pew 0 0 0;pew 0 999 0;pew 0 0 0;pew 0 1 0;");
        CHECK.due("fewer than rooms", 999, () -> y.shares(4));
        DustParish one = Check.told("pew 0 1 0;pew 0 5 0;pew 0 1 0;");
        CHECK.due("a grain first", 5, () -> one.shares(2));
        CHECK.due("more deacons than rooms", 5, () -> one.shares(4));
        DustParish z = Check.told("pew 0 8 0;pew 0 7 0;pew 0 6 0;pew 0 5 0;pew 0 4 0;");
        CHECK.due("not by the fullest first", 15, () -> z.shares(2));
        DustParish nine = Check.told("pew 0 9 0;pew 0 8 0;pew 0 7 0;pew 0 6 0;pew 0 5 0;pew 0 4 0;pew 0 3 0;pew 0 2 0;pew 0 1 0;");
        CHECK.due("nine and four", 12, () -> nine.shares(4));
        CHECK.due("nine and three", 15, () -> nine.shares(3));
    }

    private static void from() {
        DustParish x = Check.told("pew 0 0 9;chapel 1 0 9;attic 1 0 9;door 0 1 2;door 1 2 3;wind;blow 0 1 5;blow 1 2 2;"
            + "wind;blow 2 1 9;blow 1 2 3;calendar 0 5 1;every 1;tithe dust;");
        CHECK.due("itself now", 10000, () -> x.from(0, 0, 0));
        CHECK.due("another now", 0, () -> x.from(0, 1, 0));
        CHECK.due("itself", 5000, () -> x.from(0, 0, 1));
        CHECK.due("a chapel", 2000, () -> x.from(0, 1, 1));
        CHECK.due("an attic", 500, () -> x.from(0, 2, 1));
        CHECK.due("a calm", 2000, () -> x.from(0, 1, 2));
        // 450 go and 225 come; 667 of 2225 go.
        CHECK.due("cut down", 2225 - 667, () -> x.from(0, 1, 3));
        CHECK.due("cut down", 50 + 667, () -> x.from(0, 2, 3));
        // 2500 go, 1250 come; 561 of 2808 go.
        CHECK.due("round again", 2808 - 561, () -> x.from(0, 1, 4));
        x.days(1);
        CHECK.due("from now on", 10000, () -> x.from(0, 0, 1));
        CHECK.badArgument("days -1", () -> x.from(0, 0, -1));
        CHECK.badArgument("days 10", () -> x.from(0, 0, 10));
        CHECK.noSuch("no such other", () -> x.from(0, 3, 10));
        CHECK.noSuch("no such room", () -> x.from(3, 0, -1));
        CHECK.due("days 9", 0, () -> x.from(1, 0, 9));
    }

    private static void lend() {
        DustParish x = Check.told("pew 0 5 0;pew 0 14 0;pew 0 15 0;attic 1 99 0;pew 2 10 0;chapel 3 99 0;"
            + "door 0 5 1;door 0 3 1;door 0 1 1;door 2 0 1;door 4 3 1;");
        CHECK.due("the least that can", 2, () -> x.lend(0));
        CHECK.due("has enough", -1, () -> x.lend(4));
        x.sneeze(2, 1);
        CHECK.due("the next", 3, () -> x.lend(0));
        x.sneeze(3, 99);
        CHECK.due("the last", 5, () -> x.lend(0));
        x.sneeze(5, 85);
        CHECK.due("none", -1, () -> x.lend(0));
        CHECK.due("an attic has less, too", -1, () -> x.lend(3));
        DustParish y = Check.told("attic 0 0 0;pew 1 20 0;door 0 1 1;");
        CHECK.due("to an attic", 1, () -> y.lend(0));
        DustParish z = Check.told("pew 0 99 0;pew 1 9 0;door 0 1 1;");
        CHECK.due("from room 0", 0, () -> z.lend(1));
        CHECK.due("lacks but one", 0, () -> z.lend(1));
        CHECK.noSuch("none", () -> y.lend(2));
        CHECK.noSuch("-1", () -> y.lend(-1));
    }

    private static void riches() {
        DustParish x = Check.told("pew 0 5 0;attic 5 14 0;pew 0 15 0;");
        CHECK.due("two rooms", 20, () -> x.riches(0));
        CHECK.due("an attic", 14, () -> x.riches(5));
        CHECK.due("no room", 0, () -> x.riches(3));
        CHECK.noSuch("6", () -> x.riches(6));
        CHECK.noSuch("-1", () -> x.riches(-1));
    }
}
