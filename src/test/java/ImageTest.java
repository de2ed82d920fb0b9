/** Promises 38 and 39: an image, and all as it was. */
public final class ImageTest {
    private static final Check CHECK = new Check("ImageTest");
    private static final String PARISH = "pew 0 100 10;pew 1 40 5;door 0 1 2;wind;blow 0 1 5;calendar 5;every 2;";

    public static void main(String[] args) {
        none();
        allBack();
        replaced();
        rings();
        CHECK.end();
    }

    private static void none() {
        DustParish x = Check.told(PARISH);
        x.days(1);
        CHECK.due("none", 0, () -> x.restore() ? 1 : 0);
        CHECK.due("nothing changes", 1, () -> x.count(6));
    }

    private static void allBack() {
        DustParish x = Check.told(PARISH);
        x.sweep(0, 1, 10);
        x.sneeze(0, 7);
        x.days(2);
        x.shake(0, 1);
        x.plan(0, 0);
        x.sneeze(0, 4);
        int inOne = x.then(0, 3);
        int inOther = x.then(1, 1);
        x.undo();
        x.see(0, 3, inOne);
        x.see(1, 1, inOther);
        x.see(0, 31, 50);
        x.days(0);
        Check.tell(x, "x");
        int[] counts = new int[17];
        int[] rooms = new int[14];
        for (int i = 0; i < 17; i++) {
            counts[i] = x.count(i);
        }
        for (int i = 0; i < 14; i++) {
            rooms[i] = x.room(i / 7, i % 7);
        }
        int hands = x.hand(0);
        int first = x.hand(1);
        CHECK.due("some hands", 1, () -> hands > 0 && first > 0 ? 1 : 0);
        x.image();
        x.undo();
        x.undo();
        x.undo();
        x.days(3);
        x.sneeze(1, 50);
        x.sweep(0, 1, 1);
        x.plan(0, 9);
        x.forget();
        x.see(1, 0, 0);
        x.see(1, 30, 1);
        x.see(1, -1, 0);
        Check.tell(x, "pew");
        for (int again = 0; again < 2; again++) {
            CHECK.due("restore", 1, () -> x.restore() ? 1 : 0);
            for (int i = 0; i < 17; i++) {
                int what = i;
                CHECK.due("count " + i, counts[i], () -> x.count(what));
            }
            for (int i = 0; i < 14; i++) {
                int what = i;
                CHECK.due("room " + i, rooms[i], () -> x.room(what / 7, what % 7));
            }
            CHECK.due("calendar", 0, () -> x.wind(0));
            CHECK.due("what is seen", hands, () -> x.hand(0));
            CHECK.due("whose hand", first, () -> x.hand(1));
            CHECK.due("fault stays", 3, x::fault);
            CHECK.due("undo of the plan", 4, x::undo);
            CHECK.due("calendar", 5, () -> x.wind(0));
            CHECK.due("undo of the shake", 3, x::undo);
            CHECK.due("undo of the days", 2, x::undo);
            CHECK.due("dust", 83, () -> x.room(0, 2));
            CHECK.due("day", 0, () -> x.count(6));
            CHECK.due("undo of the sneeze", 1, x::undo);
            CHECK.due("undo of the sweep", 0, x::undo);
            CHECK.due("dust", 100, () -> x.room(0, 2));
        }
        Check.feed(x, "clean 5;");
        x.restore();
        CHECK.due("the tape is none of it", 20, () -> x.count(13));
    }

    private static void replaced() {
        DustParish x = Check.told(PARISH);
        x.days(1);
        x.image();
        x.days(1);
        x.image();
        x.days(1);
        CHECK.due("restore", 1, () -> x.restore() ? 1 : 0);
        CHECK.due("the latest", 2, () -> x.count(6));
        Check.tell(x, PARISH);
        CHECK.due("gone by a text", 0, () -> x.restore() ? 1 : 0);
    }

    private static void rings() {
        DustParish x = Check.told("pew 0 999 0;");
        for (int i = 0; i < 45; i++) {
            x.sneeze(0, 1);
        }
        x.image();
        for (int i = 0; i < 45; i++) {
            x.sneeze(0, 2);
        }
        x.restore();
        CHECK.due("stolen", 45, () -> x.count(9));
        for (int i = 39; i >= 0; i--) {
            CHECK.due("left", i, x::undo);
        }
        CHECK.due("none", -1, x::undo);
        CHECK.due("stolen of those that are not kept", 5, () -> x.count(9));
    }
}
