/** If only DAYS go by, what would be best; promises 17 to 32. */
final class AskEdges extends Edges {
    private static final String PARISH = "pew 0 100 10;chapel 1 40 5;attic 1 5 3;door 0 1 2;door 1 2 3;wind;blow 0 1 5;blow 1 2 2;"
        + "wind;blow 2 1 9;calendar 0 5 1;every 2;clean 30;tithe dust/4+brought;";
    private static final int[] NOT_TO_99 = {-1, 100, LEAST, MOST};

    AskEdges(Check check, Doc doc) {
        super(check, doc);
    }

    @Override
    void all() {
        then();
        taken();
        thick();
        heresy();
        order();
        everyOrder();
        orderRefused();
        alms();
        round();
        shares();
        from();
        poorest();
        fullest();
        change();
        lend();
        often();
        riches();
        lost();
    }

    private void then() {
        says(TERMS, "(If only DAYS go by, from now on:) THEN lies so much in a ROOM, is TAKEN so much in all, in so many DAYS (0 to 99).");
        says(17, "THEN lies so much in a ROOM. IllegalArgumentException (behind NoSuchElementException): not 0 to 99.");
        DustParish x = good("pew 0 5 1;attic 0 0 99;tithe 0;");
        due("now", 5, () -> x.then(0, 0));
        due("in a day", 6, () -> x.then(0, 1));
        due("in 99", 104, () -> x.then(0, 99));
        due("no more than 9999", 9999, () -> x.then(1, 51));
        x.days(3);
        due("from now on", 8, () -> x.then(0, 0));
        due("99 from now on", 107, () -> x.then(0, 99));
        for (int days : NOT_TO_99) {
            badArgument("days " + days, () -> x.then(0, days));
            noSuch("no such room first", () -> x.then(2, days));
        }
        due("the day stays", 3, () -> x.count(6));
    }

    private void taken() {
        says(18, "THEN is TAKEN so much (in these DAYS). IllegalArgumentException: not 0 to 99.");
        DustParish x = good("pew 0 999 0;every 1;tithe 1;");
        due("in none", 0, () -> x.taken(0));
        due("in 1", 1, () -> x.taken(1));
        due("in 99", 99, () -> x.taken(99));
        x.days(5);
        due("what was taken ahead is none of it", 0, () -> x.taken(0));
        due("in these days", 2, () -> x.taken(2));
        for (int days : NOT_TO_99) {
            badArgument("days " + days, () -> x.taken(days));
            badArgument("without rooms", () -> new DustParish().taken(days));
        }
        due("without rooms", 0, () -> new DustParish().taken(99));
    }

    private void thick() {
        says(TERMS, "THICK is a ROOM behind how many DAYS (0 to 99) first, so much (0 to 9999) or more lying in it; none.");
        says(19, "THICK; NONE: none. IllegalArgumentException (behind NoSuchElementException): not 0 to 9999.");
        DustParish x = good("pew 0 50 1;pew 0 999 91;pew 0 0 0;tithe 0;");
        due("of 0", 0, () -> x.thick(2, 0));
        due("of 1, never", -1, () -> x.thick(2, 1));
        due("now", 0, () -> x.thick(0, 50));
        due("one day", 1, () -> x.thick(0, 51));
        due("99 days", 99, () -> x.thick(0, 149));
        due("100 days", -1, () -> x.thick(0, 150));
        // 999 + 91 by 98 is 9917, by 99 it is 10008, of which 9999 stay.
        due("the most", 99, () -> x.thick(1, 9999));
        due("below the most", 98, () -> x.thick(1, 9917));
        due("first, not last", 1, () -> good("pew 0 10 10;every 2;tithe dust;").thick(0, 15));
        for (int much : new int[] {-1, 10000, LEAST, MOST}) {
            badArgument("much " + much, () -> x.thick(0, much));
            noSuch("no such room first", () -> x.thick(3, much));
        }
    }

    private void heresy() {
        says(TERMS, "HERESY: behind how many DAYS (0 to 99) first there is a HERETIC; none.");
        says(20, "HERESY; NONE: none.");
        due("now", 0, () -> good("pew 0 9 0;").heresy());
        due("now, though not tomorrow", 0, () -> good("pew 0 9 9;").heresy());
        due("99 days", 99, () -> good("pew 0 999 0;clean 901;every 1;tithe 1;").heresy());
        due("100 days", -1, () -> good("pew 0 999 0;clean 900;every 1;tithe 1;").heresy());
        due("never", -1, () -> good("pew 0 999 9;").heresy());
        due("attics never", -1, () -> good("attic 0 0 0;").heresy());
        due("without rooms", -1, () -> new DustParish().heresy());
        DustParish x = good("pew 0 10 0;every 7;");
        due("the first tithe day", 7, x::heresy);
        x.days(3);
        due("from now on", 4, x::heresy);
    }

    private void order() {
        says(TERMS, "THE ORDER of WINDS for a ROOM: of all orders of all WINDS (one each DAY from now on, in place of the CALENDAR's, so many "
            + "DAYS as there are WINDS) that by which most lies in it at the end; how much; the first such row.");
        String rooms = "pew 0 100 0;pew 1 0 0;pew 2 0 0;door 0 1 1;door 1 2 1;every 30;";
        row("no winds, no days", good("pew 0 55 7;every 1;tithe dust;"), 0, 55);
        row("one", good(rooms + "wind;blow 0 1 9;"), 1, 90, 0);
        row("two", good(rooms + "wind;blow 1 2 9;wind;blow 0 1 9;"), 2, 81, 1, 0);
        row("the first of like rows", good(rooms + "wind;blow 1 2 9;wind;blow 0 1 9;"), 0, 10, 0, 1);
        row("not the calendar's", good(rooms + "wind;blow 0 1 9;calendar 5;"), 1, 90, 0);
        row("five, all alike", good("pew 0 0 7;" + "wind;".repeat(5) + "every 30;"), 0, 35, 0, 1, 2, 3, 4);
        // Only by 4 3 2 1 0 anything comes to the end of the row.
        row("five, the last of all rows", good("pew 0 999 0;" + "pew 0 0 0;".repeat(5) + "door 0 1 1;door 1 2 1;door 2 3 1;door 3 4 1;"
            + "door 4 5 1;wind;blow 4 5 9;wind;blow 3 4 9;wind;blow 2 3 9;wind;blow 1 2 9;wind;blow 0 1 9;every 30;"), 5, 589, 4, 3, 2, 1, 0);
        DustParish full = good("pew 0 999 99;wind;wind;tithe 0;");
        pass(full, 100);
        row("a full room", full, 0, 9999, 0, 1);
        DustParish tithed = good(rooms.replace("30", "3") + "wind;blow 1 2 9;wind;blow 0 1 9;");
        tithed.days(1);
        // By 1 0: 10 and 90, then 9 and 81, and on day 2 a tenth is taken.
        row("tithes are taken", tithed, 2, 73, 1, 0);
    }

    /** For each order of five WINDS a row of ROOMS to whose end dust comes by that order alone. */
    private void everyOrder() {
        int[] place = new int[5];
        for (int number = 0; number < 3125; number++) {
            int bits = 0;
            for (int i = 0, rest = number; i < 5; i++, rest /= 5) {
                place[i] = rest % 5;
                bits |= 1 << place[i];
            }
            if (bits != 31) {
                continue;
            }
            StringBuilder text = new StringBuilder("pew 0 999 0;" + "pew 0 0 0;".repeat(5) + "every 30;");
            int[] row = new int[5];
            for (int wind = 0; wind < 5; wind++) {
                text.append("door ").append(wind).append(' ').append(wind + 1).append(" 1;");
            }
            for (int wind = 0; wind < 5; wind++) {
                text.append("wind;blow ").append(place[wind]).append(' ').append(place[wind] + 1).append(" 9;");
                row[place[wind]] = wind;
            }
            row("only by this order", Check.told(text.toString()), 5, 589, row);
        }
    }

    private void row(String what, DustParish x, int room, int much, int... row) {
        due(what + ": how much", much, () -> x.order(room, -1));
        for (int i = 0; i < row.length; i++) {
            int at = i;
            due(what + ": wind " + i, row[i], () -> x.order(room, at));
        }
        noSuch(what + ": behind the row", () -> x.order(room, row.length));
    }

    private void orderRefused() {
        says(21, "THE ORDER: how much (what NONE), the i-th WIND of the row. NoSuchElementException: also there is no such one.");
        DustParish x = good(PARISH);
        due("how much", 18, () -> x.order(2, -1));
        due("the first", 1, () -> x.order(2, 0));
        due("the last", 0, () -> x.order(2, 1));
        for (int i : new int[] {-2, 2, 5, LEAST, MOST}) {
            noSuch("i " + i, () -> x.order(2, i));
        }
        for (int room : new int[] {-1, 3, LEAST, MOST}) {
            noSuch("room " + room, () -> x.order(room, -1));
        }
        noSuch("without rooms", () -> good("wind;").order(0, -1));
    }

    private void alms() {
        says(TERMS, "THE ALMS: the least that must be put into ROOMS so that nobody is a HERETIC now.");
        says(22, "THE ALMS.");
        due("without rooms", 0, () -> new DustParish().alms());
        due("clean", 0, () -> good("pew 0 10 0;pew 1 11 0;").alms());
        due("one lacks", 1, () -> good("pew 0 9 0;").alms());
        due("all lacks", 10, () -> good("pew 0 0 0;").alms());
        due("each room of one owner", 12, () -> good("pew 0 8 0;chapel 0 0 0;").alms());
        due("an attic needs none", 0, () -> good("attic 0 0 0;").alms());
        due("clean 0", 0, () -> good("pew 0 0 0;clean 0;").alms());
        due("the most", 9 * 999, () -> good("pew 0 0 0;".repeat(9) + "clean 999;").alms());
        due("what is more elsewhere helps nobody", 10, () -> good("pew 0 0 0;pew 0 999 0;").alms());
    }

    private void round() {
        says(TERMS, "DEACONS' ROUND from a ROOM: STEPS of the shortest way from it through all told ROOMS, in any order, by DOORS, the end "
            + "where one likes; none.");
        says(23, "DEACONS' ROUND; NONE: none. IllegalArgumentException (behind NoSuchElementException): bits of ROOMS that there aren't.");
        DustParish x = good("pew 0 0 0;".repeat(5) + "door 0 1 1;door 0 2 2;door 2 3 5;door 1 3 9;");
        due("through none", 0, () -> x.round(0, 0));
        due("through itself", 0, () -> x.round(4, 16));
        due("through one", 1, () -> x.round(0, 2));
        due("to room 0", 1, () -> x.round(1, 1));
        due("room 0 at the end", 5 + 2, () -> x.round(3, 5));
        due("the order is free", 1 + 1 + 2 + 5, () -> x.round(0, 15));
        due("the end, too", 1 + 2, () -> x.round(1, 5));
        due("by a room that isn't told", 8, () -> x.round(1, 8));
        due("none", -1, () -> x.round(0, 16));
        due("none with others", -1, () -> x.round(0, 18));
        due("none from it", -1, () -> x.round(4, 3));
        for (int bits : new int[] {32, 33, 512, LEAST, -1, MOST}) {
            badArgument("bits " + bits, () -> x.round(0, bits));
            noSuch("no such room first", () -> x.round(5, bits));
        }
        due("all bits there are", -1, () -> x.round(0, 31));
        DustParish nine = good("pew 0 0 0;".repeat(9) + "door 0 1 9;door 1 2 9;door 2 3 9;door 3 4 9;door 4 5 9;door 5 6 9;door 6 7 9;door 7 8 9;");
        due("all nine", 72, () -> nine.round(0, 511));
        due("from the middle", 36 + 72, () -> nine.round(4, 511));
        badArgument("ten", () -> nine.round(0, 1023));
        badArgument("the tenth alone", () -> nine.round(0, 512));
        noSuch("without rooms", () -> new DustParish().round(0, 0));
    }

    private void shares() {
        says(TERMS, "SHARES: told numbers of DEACONS (1 to 4): ROOMS are given to them so that what lies in the ROOMS of each is as even as can "
            + "be: the least that the most laden one has.");
        says(24, "SHARES. IllegalArgumentException: not 1 to 4.");
        DustParish x = good("pew 0 8 0;chapel 0 7 0;attic 0 6 0;pew 1 5 0;pew 2 4 0;");
        due("one", 30, () -> x.shares(1));
        due("two", 15, () -> x.shares(2));
        due("three", 11, () -> x.shares(3));
        due("four", 9, () -> x.shares(4));
        for (int deacons : new int[] {0, 5, -1, LEAST, MOST}) {
            badArgument("deacons " + deacons, () -> x.shares(deacons));
            badArgument("without rooms", () -> new DustParish().shares(deacons));
        }
        due("without rooms", 0, () -> new DustParish().shares(1));
        due("more than rooms", 7, () -> good("pew 0 7 0;").shares(4));
        due("nothing lies there", 0, () -> good("pew 0 0 0;pew 0 0 0;").shares(2));
        due("one has it all", 999, () -> good("pew 0 0 0;pew 0 999 0;pew 0 1 0;").shares(2));
        due("nine alike", 3 * 999, () -> good("pew 0 999 0;".repeat(9)).shares(4));
        due("nine, three each", 3 * 999, () -> good("pew 0 999 0;".repeat(9)).shares(3));
    }

    private void from() {
        says(TERMS, "FROM a ROOM: how much of a grain, by ten thousandths, laid into it now, lies in another one in so many DAYS (0 to 9), by "
            + "WINDS alone, TENTHS alone (nothing cut, lost, but what is lost to chapels; the church takes none): cut down BLOW by BLOW.");
        says(25, "FROM a ROOM: ten thousandths in another one. IllegalArgumentException (behind NoSuchElementException): not 0 to 9.");
        DustParish x = good("pew 0 0 9;chapel 1 0 9;attic 1 0 9;door 0 1 2;door 1 2 3;wind;blow 0 1 5;blow 1 2 2;wind;blow 2 1 9;blow 1 2 3;"
            + "calendar 0 5 1;every 1;tithe dust;");
        due("itself now", 10000, () -> x.from(0, 0, 0));
        due("another one now", 0, () -> x.from(0, 1, 0));
        due("half goes", 5000, () -> x.from(0, 0, 1));
        due("half of that comes to a chapel", 2500 - 500, () -> x.from(0, 1, 1));
        due("to an attic all", 500, () -> x.from(0, 2, 1));
        due("a calm", 500, () -> x.from(0, 2, 2));
        due("never there", 0, () -> x.from(2, 0, 9));
        DustParish halves = good("pew 0 0 0;pew 0 0 0;door 0 1 1;wind;blow 0 1 5;calendar 0;");
        // 5000 2500 1250 625, then 312 of 625 go, 156 of 313, 78 of 157, 39 of 79, 20 of 40.
        int[] left = {10000, 5000, 2500, 1250, 625, 313, 157, 79, 40, 20};
        for (int i = 0; i < left.length; i++) {
            int days = i;
            due("left in " + i, left[i], () -> halves.from(0, 0, days));
            due("gone in " + i, 10000 - left[i], () -> halves.from(0, 1, days));
        }
        DustParish winds = good("pew 0 0 0;pew 0 0 0;door 0 1 1;wind;wind;wind;wind;wind;" + "blow 0 1 1;".repeat(8) + "calendar 4 5 0;");
        // Eight times a tenth, cut down: 9000 8100 7290 6561 5905 5315 4784 4306.
        due("the last blow of the last wind", 4306, () -> winds.from(0, 0, 1));
        due("a calm of five winds", 4306, () -> winds.from(0, 0, 2));
        due("a wind without blows", 4306, () -> winds.from(0, 0, 3));
        halves.plan(0, 5);
        due("by the calendar as it is", 10000, () -> halves.from(0, 0, 9));
        x.days(1);
        due("from now on", 10000, () -> x.from(0, 0, 1));
        for (int days : new int[] {-1, 10, LEAST, MOST}) {
            badArgument("days " + days, () -> x.from(0, 0, days));
            noSuch("no such room first", () -> x.from(3, 0, days));
            noSuch("no such other first", () -> x.from(0, 3, days));
        }
    }

    private void poorest() {
        says(TERMS, "THE POOREST ROOM in so many DAYS (0 to 99): that in which least lies then (of like ones the least); none.");
        says(26, "THE POOREST; NONE: there are no ROOMS. IllegalArgumentException: not 0 to 99.");
        DustParish x = good("pew 0 20 1;pew 0 10 3;attic 0 10 1;tithe 0;");
        due("now, of like ones", 1, () -> x.poorest(0));
        due("in a day", 2, () -> x.poorest(1));
        due("in 9", 2, () -> x.poorest(9));
        due("in 10, of like ones", 0, () -> x.poorest(10));
        due("in 99", 0, () -> x.poorest(99));
        due("the last", 8, () -> good("pew 0 1 0;".repeat(8) + "pew 0 0 0;").poorest(99));
        due("none", -1, () -> new DustParish().poorest(0));
        due("none in 99", -1, () -> new DustParish().poorest(99));
        for (int days : NOT_TO_99) {
            badArgument("days " + days, () -> x.poorest(days));
            badArgument("without rooms", () -> new DustParish().poorest(days));
        }
    }

    private void fullest() {
        says(TERMS, "THE FULLEST DAY: behind how many DAYS (0 to so many, 0 to 99) most lies in all ROOMS together (of like ones the first).");
        says(27, "THE FULLEST DAY. IllegalArgumentException: not 0 to 99.");
        DustParish x = good("pew 0 0 1;pew 0 50 0;tithe 0;");
        due("of 0", 0, () -> x.fullest(0));
        x.then(0, 99);
        due("of 1", 1, () -> x.fullest(1));
        due("of 99", 99, () -> x.fullest(99));
        due("all alike", 0, () -> good("pew 0 5 0;tithe 0;").fullest(99));
        DustParish down = good("pew 0 0 10;every 2;tithe dust;");
        due("the first of like ones", 1, () -> down.fullest(99));
        due("a full room is no fuller", 51, () -> good("attic 0 0 99;tithe 0;").fullest(99));
        due("without rooms", 0, () -> new DustParish().fullest(99));
        for (int days : NOT_TO_99) {
            badArgument("days " + days, () -> x.fullest(days));
            badArgument("without rooms", () -> new DustParish().fullest(days));
        }
    }

    private void change() {
        says(TERMS, "A CHANGE of two numbers of the CALENDAR (the lesser place first) by which most is TAKEN in so many DAYS (0 to 99), if it "
            + "is more than without (of like ones the first); none.");
        says(28, "A CHANGE: 10 by the one place and the other one; NONE: none. IllegalArgumentException: not 0 to 99.");
        // Only what has come to room 1 is taken, each day.
        String rooms = "pew 0 100 0;pew 1 0 0;door 0 1 1;wind;blow 0 1 5;wind;blow 0 1 9;every 1;tithe (owner=1)*dust;";
        DustParish ten = good(rooms + "calendar 5 5 5 5 5 5 5 5 5 0;");
        due("the first place and the last", 9, () -> ten.change(1));
        ten.days(8);
        due("the last two places", 89, () -> ten.change(1));
        DustParish x = good(rooms + "calendar 5 0 1 0;");
        due("the best, not the first", 2, () -> x.change(1));
        due("the calendar stays", 5, () -> x.wind(0));
        due("no acts", 0, () -> x.count(11));
        due("of like ones the first", 1, () -> good(rooms + "calendar 5 0 0 0;").change(1));
        due("as much as without", -1, () -> good(rooms + "calendar 1 0 1 0;").change(1));
        due("less than without", -1, () -> good(rooms + "calendar 1 0;").change(1));
        due("both numbers change", -1, () -> good(rooms.replace("every 1", "every 2") + "calendar 5 0;").change(2));
        due("in no days", -1, () -> x.change(0));
        due("one number", -1, () -> good(rooms + "calendar 0;").change(99));
        due("like numbers", -1, () -> good(rooms + "calendar 0 0 0;").change(99));
        due("no calendar", -1, () -> good(rooms).change(99));
        due("without rooms", -1, () -> new DustParish().change(99));
        due("in 99 days all comes", 1, () -> good("pew 0 999 0;pew 1 0 0;door 0 1 1;wind;blow 0 1 9;every 1;"
            + "tithe (owner=1)*dust*(day<1);calendar 5 0;").change(99));
        for (int days : NOT_TO_99) {
            badArgument("days " + days, () -> x.change(days));
            badArgument("without a calendar", () -> new DustParish().change(days));
        }
    }

    private void lend() {
        says(TERMS, "LEND a ROOM that has less than CLEAN: the ROOM with a DOOR to it from which what it lacks can be swept, so that there is "
            + "CLEAN or more in both (of like ones the least); none.");
        says(29, "LEND; NONE: none, it has CLEAN or more.");
        String doors = "door 0 2 1;door 1 0 1;";
        due("just enough", 1, () -> good("pew 0 4 0;pew 0 16 0;pew 0 16 0;" + doors).lend(0));
        due("one too few", 2, () -> good("pew 0 4 0;pew 0 15 0;pew 0 16 0;" + doors).lend(0));
        due("both too few", -1, () -> good("pew 0 4 0;pew 0 15 0;pew 0 15 0;" + doors).lend(0));
        due("room 0", 0, () -> good("pew 0 16 0;pew 0 4 0;pew 0 99 0;door 0 1 1;door 1 2 1;").lend(1));
        due("no door", -1, () -> good("pew 0 4 0;pew 0 15 0;pew 0 15 0;pew 0 999 0;" + doors).lend(0));
        due("lacks but one", 1, () -> good("pew 0 9 0;pew 0 11 0;pew 0 99 0;" + doors).lend(0));
        due("just clean", -1, () -> good("pew 0 10 0;pew 0 99 0;pew 0 99 0;" + doors).lend(0));
        due("more than clean", -1, () -> good("pew 0 11 0;pew 0 99 0;pew 0 99 0;" + doors).lend(0));
        due("clean 0", -1, () -> good("pew 0 0 0;pew 0 99 0;pew 0 99 0;clean 0;" + doors).lend(0));
        DustParish most = good("pew 0 0 0;pew 0 999 99;door 0 1 1;clean 999;tithe 0;");
        most.days(10);
        due("1989 is too few", -1, () -> most.lend(0));
        most.days(1);
        due("999 of 2088", 1, () -> most.lend(0));
        for (int room : new int[] {-1, 2, LEAST, MOST}) {
            noSuch("room " + room, () -> most.lend(room));
        }
    }

    private void often() {
        says(TERMS, "HOW OFTEN: of EVERY (1 to 30) that by which most is TAKEN in so many DAYS (0 to 99; of like ones the least).");
        says(30, "HOW OFTEN. IllegalArgumentException: not 0 to 99.");
        String rule = "pew 0 100 0;pew 1 0 0;door 0 1 1;every 1;tithe brought*(day=";
        DustParish most = good(rule + "29);");
        most.sweep(0, 1, 60);
        due("30 at most", 30, () -> most.often(30));
        due("30 in 99", 30, () -> most.often(99));
        due("not in 29", 1, () -> most.often(29));
        DustParish more = good(rule + "30);");
        more.sweep(0, 1, 60);
        // Day 30 is the 31st, and 31 is no number of EVERY but 1, by which it is forgotten.
        due("31 can't be", 1, () -> more.often(99));
        DustParish two = good(rule + "1);");
        two.sweep(0, 1, 60);
        due("2", 2, () -> two.often(2));
        due("EVERY stays", 1, () -> two.count(4));
        due("in no days", 1, () -> two.often(0));
        due("of like ones the least", 1, () -> good("pew 0 100 0;every 9;tithe 0;").often(99));
        due("without rooms", 1, () -> new DustParish().often(99));
        for (int days : NOT_TO_99) {
            badArgument("days " + days, () -> two.often(days));
            badArgument("without rooms", () -> new DustParish().often(days));
        }
    }

    private void riches() {
        says(TERMS, "RICHES of an OWNER: DUST of all his ROOMS.");
        says(31, "RICHES. NoSuchElementException: not 0 to 5.");
        DustParish x = good("pew 0 5 0;attic 5 14 0;chapel 0 15 0;pew 5 0 0;");
        int[] due = {20, 0, 0, 0, 0, 14};
        for (int i = 0; i < 6; i++) {
            int owner = i;
            due("owner " + i, due[i], () -> x.riches(owner));
            due("without rooms", 0, () -> new DustParish().riches(owner));
        }
        for (int owner : new int[] {-1, 6, LEAST, MOST}) {
            noSuch("owner " + owner, () -> x.riches(owner));
        }
    }

    private void lost() {
        says(TERMS, "LOST in so many DAYS (0 to 99): what comes by settling, less what there is more then, less what is TAKEN.");
        says(32, "LOST. IllegalArgumentException: not 0 to 99.");
        DustParish x = good(PARISH);
        due("in none", 0, () -> x.lost(0));
        due("to a chapel", 28, () -> x.lost(1));
        due("what is taken isn't", 28, () -> x.lost(2));
        x.days(2);
        due("from now on", 0, () -> x.lost(0));
        // 59, 53, 30: the wind of day 2 takes 27 out of the attic, 13 come.
        due("in the third day", 14, () -> x.lost(1));
        due("above the most", 99 * 198 - 9999, () -> good("attic 0 0 99;tithe 0;").lost(99));
        due("just not above it", 0, () -> good("pew 0 99 99;tithe 0;").lost(99));
        due("without rooms", 0, () -> new DustParish().lost(99));
        for (int days : NOT_TO_99) {
            badArgument("days " + days, () -> x.lost(days));
            badArgument("without rooms", () -> new DustParish().lost(days));
        }
    }
}
