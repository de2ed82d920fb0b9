/** A DAY, the most that lies in a ROOM, HERETICS; promises 5 to 10. */
final class DayEdges extends Edges {
    private static final String PARISH = "pew 0 100 10;chapel 1 40 5;attic 1 5 3;pew 4 7 0;door 0 1 2;door 1 2 3;door 0 2 9;"
        + "wind;blow 0 1 5;blow 1 2 2;wind;blow 2 1 9;calendar 0 5 1;every 2;clean 30;tithe dust/4+brought;";

    DayEdges(Check check, Doc doc) {
        super(check, doc);
    }

    @Override
    void all() {
        settles();
        windOfTheDay();
        tithe();
        most();
        oneMore();
        heretics();
        count();
        countRefused();
        room();
        roomRefused();
        far();
        near();
        blow();
        blowRefused();
        wind();
        windRefused();
        none();
    }

    private void settles() {
        says(TERMS, "A DAY (DAY 0 is the first): what SETTLES comes to each ROOM (twice as much to an attic);");
        DustParish x = good("pew 0 0 99;chapel 0 1 98;attic 0 2 99;attic 0 0 0;pew 0 0 0;");
        due("the first day", 0, () -> x.count(6));
        x.days(1);
        dust("a day", x, 99, 99, 200, 0, 0);
        due("as told", 99, () -> x.room(2, 3));
        x.days(5);
        dust("six days", x, 594, 589, 1190, 0, 0);
    }

    private void windOfTheDay() {
        says(TERMS, "then the WIND of the DAY blows, that of the CALENDAR's (DAY MOD how many numbers it has)-th: BLOW by BLOW so many "
            + "TENTHS of the DUST that then lies in the first ROOM, cut down, go to the second one (half of that, cut down, to a chapel: "
            + "the rest is lost);");
        String rooms = "pew 0 19 0;pew 0 0 0;chapel 0 0 0;door 0 1 1;door 1 2 1;door 0 2 1;every 30;";
        DustParish settled = good("pew 0 0 20;pew 0 0 0;door 0 1 1;wind;blow 0 1 5;calendar 0;");
        settled.days(1);
        dust("what settles is there first", settled, 10, 10);
        DustParish cut = good(rooms + "wind;blow 0 1 1;calendar 0;");
        cut.days(1);
        dust("1 of 19", cut, 18, 1, 0);
        pass(cut, 9);
        dust("1 each day, as long as it is 10 or more", cut, 9, 10, 0);
        pass(cut, 9);
        dust("none of 9", cut, 9, 10, 0);
        DustParish nine = good(rooms + "wind;blow 0 1 9;calendar 0;");
        nine.days(1);
        dust("17 of 19", nine, 2, 17, 0);
        DustParish chapel = good(rooms + "wind;blow 0 2 5;calendar 0;");
        chapel.days(1);
        dust("9 go, 4 come to a chapel", chapel, 10, 0, 4);
        due("the rest is lost", 14, () -> chapel.count(7));
        DustParish one = good("pew 0 10 0;chapel 0 0 0;door 0 1 1;wind;blow 0 1 1;calendar 0;");
        one.days(1);
        dust("1 goes, none comes", one, 9, 0);
        DustParish out = good("chapel 0 10 0;attic 0 0 0;door 0 1 1;wind;blow 0 1 5;calendar 0;");
        out.days(1);
        dust("out of a chapel, into an attic all comes", out, 5, 5);
        DustParish row = good(rooms + "wind;blow 0 1 5;blow 1 2 5;blow 0 1 5;calendar 0;");
        row.days(1);
        // 19: 9 go; of these 4 go, 2 come; 5 of 10 go.
        dust("blow by blow", row, 5, 10, 2);
        DustParish round = good("pew 0 1 0;pew 0 0 0;wind;wind;wind;wind;wind;calendar 0 1 2 3 4 5 4 3 2 1;");
        int[] due = {0, 1, 2, 3, 4, 5, 4, 3, 2, 1, 0, 1};
        for (int i = 0; i < due.length; i++) {
            int day = i;
            due("wind of day " + i, due[i], () -> round.wind(day));
        }
        DustParish five = good("pew 0 100 0;pew 0 0 0;door 0 1 1;wind;wind;wind;wind;wind;" + "blow 0 1 1;".repeat(8) + "calendar 5 4 3;every 30;");
        five.days(1);
        dust("a calm of five winds", five, 100, 0);
        five.days(1);
        // 90 81 73 66 60 54 49 45.
        dust("eight blows of the last wind", five, 45, 55);
        five.days(1);
        dust("a wind without blows", five, 45, 55);
        DustParish wraps = good("pew 0 999 0;pew 0 0 0;door 0 1 1;wind;blow 0 1 9;calendar 5 5 5 5 5 5 5 5 5 0;every 30;");
        wraps.days(9);
        dust("nine calm days", wraps, 999, 0);
        wraps.days(1);
        dust("the tenth day", wraps, 100, 899);
        wraps.days(9);
        dust("nine calm ones again", wraps, 100, 899);
        wraps.days(1);
        dust("the twentieth", wraps, 10, 989);
    }

    private void tithe() {
        says(TERMS, "then, if the DAY and 1 is one of EVERY (MOD EVERY is 0), the church takes from each ROOM what TITHE gives (kept to 0 to "
            + "its DUST; without a rule a tenth, cut down), and what was brought counts from 0 again.");
        DustParish most = good("pew 0 100 0;every 30;");
        most.days(29);
        dust("29 days", most, 100);
        most.days(1);
        dust("the thirtieth", most, 90);
        most.days(29);
        dust("59 days", most, 90);
        most.days(1);
        dust("the sixtieth", most, 81);
        DustParish each = good("pew 0 100 0;every 1;");
        each.days(1);
        each.days(1);
        dust("each day", each, 81);
        DustParish seven = good("pew 0 19 0;attic 0 10 0;chapel 0 9 0;");
        seven.days(6);
        dust("six days", seven, 19, 10, 9);
        seven.days(1);
        dust("a tenth, cut down", seven, 18, 9, 9);
        due("taken", 2, () -> seven.count(8));
        String[] rules = {"0-1", "0", "dust", "dust-1", "dust+1", "9999", "0-9999*9999", "9999*9999*21"};
        int[] left = {40, 40, 0, 1, 0, 0, 40, 0};
        for (int i = 0; i < rules.length; i++) {
            DustParish x = good("pew 0 40 0;every 1;tithe " + rules[i] + ";");
            int due = left[i];
            due("would be taken by " + rules[i], 40 - due, () -> x.room(0, 5));
            x.days(1);
            dust("by " + rules[i], x, due);
            due("taken by " + rules[i], 40 - due, () -> x.count(8));
        }
        DustParish behind = good("pew 0 40 10;pew 0 0 0;door 0 1 1;wind;blow 0 1 5;calendar 0;every 1;tithe dust;");
        behind.days(1);
        due("behind settling and wind", 50, () -> behind.count(8));
        DustParish brought = good("pew 0 40 0;pew 0 0 0;door 0 1 1;every 3;tithe 0;");
        brought.sweep(0, 1, 7);
        brought.sweep(1, 0, 2);
        brought.days(2);
        due("no tithe day as yet", 7, () -> brought.room(1, 4));
        due("nor for the other one", 2, () -> brought.room(0, 4));
        brought.days(1);
        due("from 0 again", 0, () -> brought.room(1, 4));
        due("for each room", 0, () -> brought.room(0, 4));
        brought.sweep(0, 1, 1);
        due("counts again", 1, () -> brought.room(1, 4));
    }

    private void most() {
        says(TERMS, "No ROOM has more than 9999: what is more is lost, whenever it comes.");
        String rest = "pew 0 999 0;door 0 1 1;wind;blow 1 0 1;wind;blow 0 1 1;calendar 5;every 30;tithe 0;";
        DustParish just = good("pew 0 999 90;" + rest);
        due("nothing is lost as yet", 0, () -> just.lost(99));
        pass(just, 100);
        dust("9999, and no more came", just, 9999, 999);
        due("all that settles is lost", 90, () -> just.lost(1));
        DustParish x = good("pew 0 998 90;" + rest);
        pass(x, 100);
        dust("9998", x, 9998, 999);
        due("by settling", 89, () -> x.lost(1));
        due("9999 then", 9999, () -> x.then(0, 1));
        x.sweep(1, 0, 1);
        dust("one can be swept", x, 9999, 998);
        x.undo();
        x.sweep(1, 0, 2);
        dust("of two one is lost", x, 9999, 997);
        due("all of it was brought", 2, () -> x.room(0, 4));
        x.undo();
        x.shake(1, 0);
        dust("shaken", x, 9999, 500);
        due("brought", 499, () -> x.room(0, 4));
        x.undo();
        x.plan(0, 0);
        x.days(1);
        dust("by a wind", x, 9999, 900);
        x.undo();
        x.plan(0, 1);
        x.days(1);
        // 9999 first, then 999 of it go.
        dust("lost ahead of the wind", x, 9000, 1998);
        DustParish attic = good("attic 0 999 99;chapel 0 999 99;tithe 0;");
        pass(attic, 90);
        dust("an attic, a chapel", attic, 9999, 9909);
        attic.days(1);
        dust("both", attic, 9999, 9999);
    }

    private void oneMore() {
        says(TERMS, "The DAY is one more then.");
        DustParish x = good("pew 0 0 1;every 30;tithe day;");
        for (int i = 1; i <= 3; i++) {
            int day = i;
            due("days", day, () -> x.days(1));
            due("the day", day, () -> x.count(6));
        }
    }

    private void heretics() {
        says(TERMS, "A HERETIC is an OWNER of ROOMS of which one has less DUST than CLEAN (an attic counts for nothing).");
        due("9 of 10", 1, () -> good("pew 0 9 0;").count(10));
        due("10 of 10", 0, () -> good("pew 0 10 0;").count(10));
        due("0 of 0", 0, () -> good("pew 0 0 0;clean 0;").count(10));
        due("0 of 1", 1, () -> good("pew 0 0 0;clean 1;").count(10));
        due("998 of 999", 1, () -> good("pew 0 998 0;clean 999;").count(10));
        due("999 of 999", 0, () -> good("pew 0 999 0;clean 999;").count(10));
        due("a chapel", 32, () -> good("chapel 5 9 0;").count(10));
        due("an attic", 0, () -> good("attic 5 0 0;").count(10));
        due("an attic beside", 0, () -> good("attic 5 0 0;pew 5 10 0;").count(10));
        due("one room of many", 8, () -> good("pew 3 99 0;pew 3 99 0;pew 3 9 0;pew 2 99 0;").count(10));
        due("all", 63, () -> good("pew 0 0 0;pew 1 0 0;pew 2 0 0;pew 3 0 0;pew 4 0 0;pew 5 0 0;").count(10));
        due("nobody", 0, () -> good("").count(10));
    }

    private void count() {
        says(5, "0 ROOMS, 1 DOORS, 2 WINDS, 3 how many numbers the CALENDAR has, 4 EVERY, 5 CLEAN, 6 the DAY, 7 DUST in all, 8 TAKEN, "
            + "9 STOLEN, 10 HERETICS (bits), 11 ACTS that are kept, 12 SEEN, 13 bytes of the tape, 14 to 16 STATUS 0 to 2.");
        DustParish x = good(PARISH);
        x.see(0, 0, 0);
        x.see(0, 0, 0);
        x.sneeze(0, 4);
        x.sneeze(3, 9);
        x.sweep(0, 1, 20);
        // 76, 60, 5, 0; 86, 65, 11; 43 go, 21 come: 43, 86, 11; 17 go: 69, 28; then a calm: 53, 74, 34, 0.
        x.days(2);
        // A quarter of each, and the 20 that were brought: 13, 38, 8.
        Check.tell(x, "!");
        Check.tell(x, "!");
        Check.tell(x, "!");
        x.days(31);
        x.days(31);
        x.days(31);
        x.days(31);
        for (int i = 0; i < 5; i++) {
            x.see(0, 31, 0);
        }
        Check.feed(x, "some");
        int[] due = {4, 3, 2, 3, 2, 30, 2, 102, 59, 11, 16, 4, 2, 20, 3, 4, 5};
        for (int i = 0; i < due.length; i++) {
            int what = i;
            due("count " + i, due[i], () -> x.count(what));
        }
    }

    private void countRefused() {
        says(5, "NoSuchElementException: another what.");
        DustParish x = good(PARISH);
        due("16", 0, () -> x.count(16));
        for (int what : new int[] {-1, 17, 18, LEAST, MOST}) {
            noSuch("count " + what, () -> x.count(what));
        }
    }

    private void room() {
        says(6, "Of a ROOM: 0 KIND, 1 OWNER, 2 DUST, 3 SETTLES (as told), 4 what was brought, 5 what TITHE gives for it as all lies now "
            + "(kept so), 6 with how many it has DOORS.");
        DustParish x = good(PARISH);
        int[][] due = {{0, 0, 100, 10, 0, 25, 2}, {1, 1, 40, 5, 0, 10, 2}, {2, 1, 5, 3, 0, 1, 2}, {0, 4, 7, 0, 0, 1, 0}};
        for (int i = 0; i < due.length; i++) {
            for (int j = 0; j < due[i].length; j++) {
                int room = i;
                int what = j;
                due("room " + i + " " + j, due[i][j], () -> x.room(room, what));
            }
        }
        x.sweep(0, 2, 30);
        due("brought", 30, () -> x.room(2, 4));
        due("a quarter of 35, and 30 that were brought, is more than lies there", 35, () -> x.room(2, 5));
        due("not below 0", 0, () -> good("pew 0 5 0;tithe 0-dust;").room(0, 5));
        due("of nothing", 0, () -> good("pew 0 0 0;tithe 5;").room(0, 5));
        due("without a rule", 9, () -> good("pew 0 99 0;").room(0, 5));
        due("doors with all others", 8, () -> good("pew 0 0 0;".repeat(9) + "door 8 0 1;door 8 1 1;door 8 2 1;door 8 3 1;door 4 8 1;"
            + "door 5 8 1;door 6 8 1;door 7 8 1;door 0 1 1;").room(8, 6));
    }

    private void roomRefused() {
        says(6, "NoSuchElementException: no such ROOM (as everywhere), what.");
        DustParish x = good(PARISH);
        due("the last room", 4, () -> x.room(3, 1));
        for (int room : new int[] {-1, 4, 8, 9, LEAST, MOST}) {
            noSuch("room " + room, () -> x.room(room, 0));
            noSuch("room and what", () -> x.room(room, 7));
            noSuch("far from", () -> x.far(room, 0));
            noSuch("far to", () -> x.far(0, room));
            noSuch("near", () -> x.near(room, 5));
            noSuch("sweep from", () -> x.sweep(room, 0, 1));
            noSuch("sweep to", () -> x.sweep(0, room, 1));
            noSuch("shake from", () -> x.shake(room, 0));
            noSuch("shake to", () -> x.shake(0, room));
            noSuch("sneeze", () -> x.sneeze(room, 1));
            noSuch("then", () -> x.then(room, 1));
            noSuch("thick", () -> x.thick(room, 1));
            noSuch("order", () -> x.order(room, -1));
            noSuch("round", () -> x.round(room, 1));
            noSuch("from", () -> x.from(room, 0, 1));
            noSuch("from to", () -> x.from(0, room, 1));
            noSuch("lend", () -> x.lend(room));
            noSuch("see", () -> x.see(room, 0, 1));
        }
        for (int what : new int[] {-1, 7, LEAST, MOST}) {
            noSuch("what " + what, () -> x.room(0, what));
        }
        due("nothing was refused", 0, () -> x.count(15) + x.count(16));
    }

    private void far() {
        says(7, "STEPS from a ROOM to another one by DOORS (the fewest); NONE: there is no way.");
        DustParish x = good(PARISH);
        due("not by the long door", 5, () -> x.far(0, 2));
        due("back", 5, () -> x.far(2, 0));
        due("by one door", 2, () -> x.far(1, 0));
        due("to itself", 0, () -> x.far(0, 0));
        due("to itself, without doors", 0, () -> x.far(3, 3));
        due("no way", -1, () -> x.far(0, 3));
        due("no way back", -1, () -> x.far(3, 0));
        DustParish row = good("pew 0 0 0;".repeat(9) + "door 8 7 9;door 7 6 9;door 6 5 9;door 5 4 9;door 4 3 9;door 3 2 9;door 2 1 9;door 1 0 9;");
        due("the farthest", 72, () -> row.far(0, 8));
        DustParish like = good("pew 0 0 0;".repeat(3) + "door 0 1 4;door 1 2 5;door 0 2 9;");
        due("both alike", 9, () -> like.far(0, 2));
    }

    private void near() {
        says(8, "ROOMS to which there are so many STEPS or fewer from one (itself, too, if so many isn't below 0), as bits.");
        DustParish x = good(PARISH);
        int[][] due = {{LEAST, 0}, {-1, 0}, {0, 1}, {1, 1}, {2, 3}, {4, 3}, {5, 7}, {9, 7}, {MOST, 7}};
        for (int[] one : due) {
            due("near by " + one[0], one[1], () -> x.near(0, one[0]));
        }
        due("alone", 8, () -> x.near(3, 0));
        due("alone, however far", 8, () -> x.near(3, MOST));
        due("alone, below 0", 0, () -> x.near(3, -1));
        DustParish row = good("pew 0 0 0;".repeat(9) + "door 8 7 9;door 7 6 9;door 6 5 9;door 5 4 9;door 4 3 9;door 3 2 9;door 2 1 9;door 1 0 9;");
        due("all but the last", 255, () -> row.near(0, 71));
        due("all", 511, () -> row.near(0, 72));
    }

    private void blow() {
        says(9, "Of a WIND: how many BLOWS (i NONE), the i-th one: 0 from, 1 to, 2 TENTHS (what; of i NONE 0 to 2 as well).");
        DustParish x = good(PARISH);
        int[][] due = {{0, 1, 5}, {1, 2, 2}};
        for (int what = 0; what < 3; what++) {
            int asked = what;
            due("the first", due[0][what], () -> x.blow(0, 0, asked));
            due("the second", due[1][what], () -> x.blow(0, 1, asked));
            due("how many", 2, () -> x.blow(0, -1, asked));
            due("how many of the other", 1, () -> x.blow(1, -1, asked));
        }
        due("how many of none", 0, () -> good("wind;").blow(0, -1, 2));
    }

    private void blowRefused() {
        says(9, "NoSuchElementException: no such WIND, BLOW, what.");
        DustParish x = good(PARISH);
        for (int wind : new int[] {-1, 2, 5, LEAST, MOST}) {
            noSuch("wind " + wind, () -> x.blow(wind, -1, 0));
            noSuch("a blow of wind " + wind, () -> x.blow(wind, 0, 0));
        }
        for (int i : new int[] {-2, 2, 8, LEAST, MOST}) {
            noSuch("blow " + i, () -> x.blow(0, i, 0));
        }
        noSuch("the second of one", () -> x.blow(1, 1, 0));
        noSuch("the first of none", () -> good("wind;").blow(0, 0, 0));
        for (int what : new int[] {-1, 3, LEAST, MOST}) {
            noSuch("what " + what, () -> x.blow(0, 0, what));
            noSuch("what " + what + " of NONE", () -> x.blow(0, -1, what));
        }
    }

    private void wind() {
        says(10, "The WIND of a DAY (0 to 9999); 5: calm.");
        DustParish x = good(PARISH);
        due("the first", 0, () -> x.wind(0));
        due("a calm", 5, () -> x.wind(1));
        due("the last of the calendar", 1, () -> x.wind(2));
        due("round again", 0, () -> x.wind(3));
        due("9998", 1, () -> x.wind(9998));
        due("9999", 0, () -> x.wind(9999));
        x.days(2);
        due("not from now on", 0, () -> x.wind(0));
        x.plan(0, 1);
        due("as planned", 1, () -> x.wind(9999));
        due("no calendar", 5, () -> good("wind;").wind(9999));
        due("no parish", 5, () -> new DustParish().wind(0));
    }

    private void windRefused() {
        says(10, "IllegalArgumentException: another one.");
        DustParish x = good(PARISH);
        for (int day : new int[] {-1, 10000, LEAST, MOST}) {
            badArgument("day " + day, () -> x.wind(day));
            badArgument("without a calendar", () -> new DustParish().wind(day));
        }
    }

    private void none() {
        says(TERMS, "There is none.");
        due("NONE", -1, () -> DustParish.NONE);
    }
}
