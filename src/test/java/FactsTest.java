/** Promises 5 to 10: what there is, rooms, ways, winds; and what a tithe's rule gives. */
public final class FactsTest {
    private static final Check CHECK = new Check("FactsTest");
    private static final String PARISH =
        "pew 0 100 10;chapel 1 40 5;attic 1 5 3;pew 4 7 0;"
        + "door 0 1 2;door 1 2 3;door 0 2 9;wind;blow 0 1 5;blow 1 2 2;wind;blow 2 1 9;"
        + "calendar 0 5 1;every 2;clean 30;tithe dust/4+brought;";

    public static void main(String[] args) {
        counts();
        rooms();
        ways();
        winds();
        rules();
        CHECK.end();
    }

    private static void counts() {
        DustParish x = Check.told(PARISH);
        int[] due = {4, 3, 2, 3, 2, 30, 0, 152, 0, 0, 16, 0, 0, 0, 0, 0, 0};
        for (int i = 0; i < due.length; i++) {
            int what = i;
            CHECK.due("count " + i, due[i], () -> x.count(what));
        }
        CHECK.noSuch("count 17", () -> x.count(17));
        CHECK.noSuch("count -1", () -> x.count(-1));
        CHECK.noSuch("count least", () -> x.count(Integer.MIN_VALUE));
        DustParish y = Check.told("pew 5 9 0;attic 4 0 0;pew 3 10 0;chapel 0 0 0;pew 0 99 0;");
        CHECK.due("heretics", 33, () -> y.count(10));
    }

    private static void rooms() {
        DustParish x = Check.told(PARISH);
        int[][] due = {{0, 0, 100, 10, 0, 25, 2}, {1, 1, 40, 5, 0, 10, 2}, {2, 1, 5, 3, 0, 1, 2}, {0, 4, 7, 0, 0, 1, 0}};
        for (int i = 0; i < due.length; i++) {
            for (int j = 0; j < due[i].length; j++) {
                int room = i;
                int what = j;
                CHECK.due("room " + i + " " + j, due[i][j], () -> x.room(room, what));
            }
        }
        CHECK.noSuch("room what 7", () -> x.room(0, 7));
        CHECK.noSuch("room what -1", () -> x.room(0, -1));
        CHECK.noSuch("room 4", () -> x.room(4, 0));
        CHECK.noSuch("room -1", () -> x.room(-1, 0));
    }

    private static void ways() {
        DustParish x = Check.told(PARISH);
        CHECK.due("far itself", 0, () -> x.far(3, 3));
        CHECK.due("far by two doors", 5, () -> x.far(0, 2));
        CHECK.due("far back", 5, () -> x.far(2, 0));
        CHECK.due("far by one", 2, () -> x.far(1, 0));
        CHECK.due("no way", -1, () -> x.far(0, 3));
        CHECK.noSuch("far 4", () -> x.far(0, 4));
        CHECK.noSuch("far from 4", () -> x.far(4, 0));
        CHECK.noSuch("far -1", () -> x.far(0, -1));
        CHECK.due("near 0", 1, () -> x.near(0, 0));
        CHECK.due("near -1", 0, () -> x.near(0, -1));
        CHECK.due("near least", 0, () -> x.near(0, Integer.MIN_VALUE));
        CHECK.due("near 2", 3, () -> x.near(0, 2));
        CHECK.due("near 4", 3, () -> x.near(0, 4));
        CHECK.due("near 5", 7, () -> x.near(0, 5));
        CHECK.due("near most", 7, () -> x.near(0, Integer.MAX_VALUE));
        CHECK.due("near alone", 8, () -> x.near(3, 99));
        CHECK.noSuch("near of none", () -> x.near(4, 0));
    }

    private static void winds() {
        DustParish x = Check.told(PARISH);
        int[][] due = {{0, 1, 5}, {1, 2, 2}};
        for (int i = 0; i < 2; i++) {
            for (int j = 0; j < 3; j++) {
                int blow = i;
                int what = j;
                CHECK.due("blow " + i + " " + j, due[i][j], () -> x.blow(0, blow, what));
                CHECK.due("blows by " + j, 2 - i, () -> x.blow(blow, -1, what));
            }
        }
        CHECK.due("blow of the second wind", 9, () -> x.blow(1, 0, 2));
        CHECK.noSuch("wind 2", () -> x.blow(2, -1, 0));
        CHECK.noSuch("wind -1", () -> x.blow(-1, -1, 0));
        CHECK.noSuch("blow 2", () -> x.blow(0, 2, 0));
        CHECK.noSuch("blow -2", () -> x.blow(0, -2, 0));
        CHECK.noSuch("what 3", () -> x.blow(0, 0, 3));
        CHECK.noSuch("what 3 of NONE", () -> x.blow(0, -1, 3));
        CHECK.noSuch("what -1 of NONE", () -> x.blow(0, -1, -1));
        int[] calendar = {0, 5, 1};
        for (int i = 0; i < 7; i++) {
            int day = i;
            CHECK.due("wind of " + i, calendar[i % 3], () -> x.wind(day));
        }
        CHECK.due("wind of 9999", 0, () -> x.wind(9999));
        CHECK.due("wind of 9998", 1, () -> x.wind(9998));
        CHECK.badArgument("wind of 10000", () -> x.wind(10000));
        CHECK.badArgument("wind of -1", () -> x.wind(-1));
        DustParish calm = Check.told("wind;");
        CHECK.due("calm without a calendar", 5, () -> calm.wind(0));
    }

    /** What the rule gives for room 0: a pew of owner 3, who has two rooms, with 900 grains. */
    private static void gives(String rule, int due) {
        DustParish x = Check.told("pew 3 900 0;attic 3 50 0;chapel 1 800 0;door 0 1 1;every 30;tithe " + rule + ";");
        x.days(4);
        x.shake(1, 0);
        CHECK.due("rule " + rule, due, () -> x.room(0, 5));
    }

    private static void rules() {
        DustParish tenth = Check.told("pew 0 99 0;pew 0 9 0;");
        CHECK.due("a tenth", 9, () -> tenth.room(0, 5));
        CHECK.due("a tenth of 9", 0, () -> tenth.room(1, 5));
        gives("dust", 925);
        gives("dust+1", 925);
        gives("0-1", 0);
        gives("kind", 0);
        gives("owner", 3);
        gives("day", 4);
        gives("rich", 2);
        gives("brought", 25);
        gives("10-3-2", 5);
        gives("10-(3-2)", 9);
        gives("100/7/2", 7);
        gives("100/(7/2)", 33);
        gives("2+3*4", 14);
        gives("(2+3)*4", 20);
        gives("7/0", 0);
        gives("5+7/0", 5);
        gives("100+(0-7)/2", 97);
        gives("100+7/(0-2)", 97);
        gives("9999*9999*9999/1000/1000", 0);
        gives("0-9999*9999*9999/1000/1000-200", 827);
        gives("1<2", 1);
        gives("2<1", 0);
        gives("2<2", 0);
        gives("2=2", 1);
        gives("2=3", 0);
        gives("1+1=2", 1);
        gives("not 0", 1);
        gives("not 5", 0);
        gives("not not 5", 1);
        gives("not 1=2", 1);
        gives("not 2+3", 0);
        gives("not 0 and 5", 1);
        gives("not 0 or 5", 1);
        gives("not 5 or 0", 0);
        gives("3 and 4", 1);
        gives("3 and 0", 0);
        gives("0 or 7", 1);
        gives("0 or 0", 0);
        gives("1 or 0 and 0", 1);
        gives("(1 or 0) and 0", 0);
        gives("0 and 0 or 1", 1);
        gives("7", 7);
        gives("(7)", 7);
        gives("0-5 and 1", 1);
        gives("(1<2)*50+(2<1)*30", 50);
        gives("1<2 and 5", 1);
        gives("(owner=3)*(dust/2)", 462);
        gives("0-9999*9999*22", 925);
        DustParish kinds = Check.told("pew 0 9 0;chapel 1 9 0;attic 5 9 0;tithe 4+kind-owner*4/5;");
        CHECK.due("of a pew", 4, () -> kinds.room(0, 5));
        CHECK.due("of a chapel", 5, () -> kinds.room(1, 5));
        CHECK.due("of an attic", 2, () -> kinds.room(2, 5));
    }
}
