/** Promises 11 to 16: days, sweepers, carpets, sneezes, the calendar, all undone. */
public final class ActsTest {
    private static final Check CHECK = new Check("ActsTest");

    public static void main(String[] args) {
        aDay();
        tithes();
        tooMuchDust();
        days();
        sweep();
        shake();
        sneeze();
        plan();
        undo();
        latestActs();
        CHECK.end();
    }

    private static void dust(String when, DustParish x, int... due) {
        for (int i = 0; i < due.length; i++) {
            int room = i;
            CHECK.due(when + ": dust of " + i, due[i], () -> x.room(room, 2));
        }
    }

    private static void aDay() {
        DustParish x = Check.told("pew 0 95 10;chapel 1 40 5;attic 1 5 3;door 0 1 2;door 1 2 3;"
            + "wind;blow 0 1 5;blow 1 2 2;wind;blow 2 1 9;calendar 0 5 1;every 30;");
        x.days(1);
        // 105, 45, 11; 52 go, 26 come: 53, 71, 11; 14 go: 57, 25.
        dust("by the first wind", x, 53, 57, 25);
        x.days(1);
        dust("by a calm", x, 63, 62, 31);
        x.days(1);
        // 73, 67, 37; 33 go, 16 come.
        dust("by the second wind", x, 73, 83, 4);
        x.days(1);
        // 83, 88, 10; 41 go, 20 come: 42, 108; 21 go.
        dust("the calendar goes round", x, 42, 87, 31);
        CHECK.due("nothing is taken", 0, () -> x.count(8));
    }

    private static void tithes() {
        DustParish x = Check.told("pew 0 95 10;attic 1 5 3;");
        x.days(6);
        dust("ahead of the tithe", x, 155, 41);
        x.days(1);
        dust("behind the tithe", x, 149, 43);
        CHECK.due("taken", 20, () -> x.count(8));
        x.days(7);
        dust("behind the second tithe", x, 198, 77);
        CHECK.due("taken", 20 + 21 + 8, () -> x.count(8));
        DustParish y = Check.told("pew 0 95 0;pew 1 20 0;door 0 1 1;every 3;tithe brought+day;");
        y.sweep(0, 1, 7);
        y.days(2);
        CHECK.due("brought", 7, () -> y.room(1, 4));
        y.days(1);
        dust("the third day", y, 86, 18);
        CHECK.due("brought counts from 0", 0, () -> y.room(1, 4));
        DustParish z = Check.told("pew 0 95 0;pew 1 20 0;every 1;tithe 50;");
        z.days(1);
        dust("no more than there is", z, 45, 0);
        CHECK.due("taken", 70, () -> z.count(8));
    }

    private static void tooMuchDust() {
        DustParish x = Check.told("pew 0 999 99;attic 0 999 99;pew 0 999 99;door 0 1 1;door 1 2 1;every 30;tithe 0;wind;blow 0 1 9;calendar 5;");
        for (int i = 0; i < 4; i++) {
            x.days(30);
        }
        dust("settled too much", x, 9999, 9999, 9999);
        CHECK.due("swept into a full room", 9000, () -> x.sweep(2, 1, 999));
        dust("what is more is lost", x, 9999, 9999, 9000);
        CHECK.due("all of it was brought", 999, () -> x.room(1, 4));
        CHECK.due("shaken", 4500, () -> x.shake(2, 1));
        dust("what is more is lost", x, 9999, 9999, 4500);
        CHECK.due("brought", 5499, () -> x.room(1, 4));
        x.plan(0, 0);
        x.days(1);
        dust("blown too much", x, 1000, 9999, 4599);
    }

    private static void days() {
        DustParish x = Check.told("pew 0 0 1;tithe 0;");
        CHECK.due("days 0", -1, () -> x.days(0));
        CHECK.due("days -1", -1, () -> x.days(-1));
        CHECK.due("days 31", -1, () -> x.days(31));
        CHECK.due("days most", -1, () -> x.days(Integer.MAX_VALUE));
        CHECK.due("STATUS", 4, () -> x.count(15));
        CHECK.due("no act", 0, () -> x.count(11));
        for (int i = 1; i <= 33; i++) {
            CHECK.due("days 30", 30 * i, () -> x.days(30));
        }
        CHECK.due("days above 999", -1, () -> x.days(10));
        CHECK.due("days to 999", 999, () -> x.days(9));
        CHECK.due("one day above", -1, () -> x.days(1));
        dust("in 999 days", x, 999);
        CHECK.due("STATUS", 6, () -> x.count(15));
        CHECK.due("further on", 1098, () -> x.then(0, 99));
    }

    private static void sweep() {
        DustParish x = Check.told("pew 0 999 0;chapel 0 5 0;attic 0 0 0;door 0 1 1;");
        CHECK.noSuch("sweep from none", () -> x.sweep(3, 0, 0));
        CHECK.noSuch("sweep into none", () -> x.sweep(0, -1, 5));
        CHECK.due("no door", -1, () -> x.sweep(0, 2, 5));
        CHECK.due("into itself", -1, () -> x.sweep(0, 0, 5));
        CHECK.due("0", -1, () -> x.sweep(0, 1, 0));
        CHECK.due("1000", -1, () -> x.sweep(0, 1, 1000));
        CHECK.due("more than lies there", -1, () -> x.sweep(1, 0, 6));
        CHECK.due("STATUS", 5, () -> x.count(15));
        CHECK.due("no act", 0, () -> x.count(11));
        CHECK.due("all", 0, () -> x.sweep(0, 1, 999));
        CHECK.due("a chapel gets all", 1004, () -> x.room(1, 2));
        CHECK.due("back", 1003, () -> x.sweep(1, 0, 1));
        CHECK.due("brought", 1, () -> x.room(0, 4));
        CHECK.due("brought stays", 999, () -> x.room(1, 4));
        CHECK.due("acts", 2, () -> x.count(11));
        CHECK.due("1000 of more", -1, () -> x.sweep(1, 0, 1000));
    }

    private static void shake() {
        DustParish x = Check.told("pew 0 75 0;chapel 0 1 0;attic 0 0 0;door 0 1 1;");
        CHECK.noSuch("shake of none", () -> x.shake(3, 0));
        CHECK.noSuch("shake into none", () -> x.shake(0, 3));
        CHECK.due("no door", -1, () -> x.shake(0, 2));
        CHECK.due("into itself", -1, () -> x.shake(1, 1));
        CHECK.due("STATUS", 2, () -> x.count(15));
        CHECK.due("half of 1", 0, () -> x.shake(1, 0));
        CHECK.due("is an act", 1, () -> x.count(11));
        CHECK.due("half of 75", 37, () -> x.shake(0, 1));
        dust("shaken", x, 38, 38, 0);
        CHECK.due("brought", 37, () -> x.room(1, 4));
    }

    private static void sneeze() {
        DustParish x = Check.told("pew 0 120 0;");
        CHECK.noSuch("sneeze in none", () -> x.sneeze(1, 0));
        CHECK.due("0", -1, () -> x.sneeze(0, 0));
        CHECK.due("100", -1, () -> x.sneeze(0, 100));
        CHECK.due("STATUS", 2, () -> x.count(15));
        CHECK.due("99", 99, () -> x.sneeze(0, 99));
        CHECK.due("all", 21, () -> x.sneeze(0, 22));
        CHECK.due("nothing is there", 0, () -> x.sneeze(0, 1));
        CHECK.due("stolen", 120, () -> x.count(9));
        CHECK.due("acts", 3, () -> x.count(11));
    }

    private static void plan() {
        DustParish x = Check.told("wind;wind;calendar 0 5;");
        CHECK.due("place 2", -1, () -> x.plan(2, 0));
        CHECK.due("place -1", -1, () -> x.plan(-1, 0));
        CHECK.due("wind 2", -1, () -> x.plan(0, 2));
        CHECK.due("wind -1", -1, () -> x.plan(0, -1));
        CHECK.due("wind 6", -1, () -> x.plan(0, 6));
        CHECK.due("STATUS", 5, () -> x.count(15));
        CHECK.due("as it was", 5, () -> x.plan(1, 1));
        CHECK.due("as it was then", 1, () -> x.plan(1, 1));
        CHECK.due("a calm", 0, () -> x.plan(0, 5));
        CHECK.due("wind of 0", 5, () -> x.wind(0));
        CHECK.due("wind of 1", 1, () -> x.wind(1));
        CHECK.due("acts", 3, () -> x.count(11));
        CHECK.due("undone", 2, x::undo);
        CHECK.due("wind of 0", 0, () -> x.wind(0));
        DustParish none = Check.told("wind;");
        CHECK.due("no calendar", -1, () -> none.plan(0, 0));
    }

    private static void undo() {
        DustParish x = Check.told("pew 0 100 1;pew 1 50 0;door 0 1 1;wind;calendar 5;every 2;");
        CHECK.due("none", -1, x::undo);
        CHECK.due("no STATUS", 0, () -> x.count(15));
        x.sweep(0, 1, 10);
        x.days(2);
        x.sneeze(1, 9);
        x.plan(0, 0);
        x.shake(1, 0);
        x.see(0, 0, 1);
        dust("all", x, 83 + 22, 23);
        CHECK.due("of the shake", 4, x::undo);
        dust("as ahead of the shake", x, 83, 45);
        CHECK.due("brought", 0, () -> x.room(0, 4));
        CHECK.due("of the plan", 3, x::undo);
        CHECK.due("calm", 5, () -> x.wind(0));
        CHECK.due("of the sneeze", 2, x::undo);
        CHECK.due("stolen", 0, () -> x.count(9));
        dust("as ahead of the sneeze", x, 83, 54);
        CHECK.due("of the days", 1, x::undo);
        CHECK.due("day", 0, () -> x.count(6));
        CHECK.due("taken", 0, () -> x.count(8));
        CHECK.due("brought again", 10, () -> x.room(1, 4));
        dust("as ahead of the days", x, 90, 60);
        CHECK.due("of the sweep", 0, x::undo);
        dust("as told", x, 100, 50);
        CHECK.due("brought no more", 0, () -> x.room(1, 4));
        CHECK.due("none more", -1, x::undo);
        CHECK.due("what is seen stays", 1, () -> x.count(12));
    }

    private static void latestActs() {
        DustParish x = Check.told("pew 0 999 0;");
        for (int i = 0; i < 50; i++) {
            x.sneeze(0, 1 + i % 2);
        }
        CHECK.due("kept", 40, () -> x.count(11));
        for (int i = 39; i >= 0; i--) {
            CHECK.due("left", i, x::undo);
        }
        CHECK.due("none", -1, x::undo);
        CHECK.due("those ahead stay", 15, () -> x.count(9));
        dust("those ahead stay", x, 984);
    }
}
