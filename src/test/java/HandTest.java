/** Promises 33 to 35: what is seen, and whose hand left a mark. */
public final class HandTest {
    private static final Check CHECK = new Check("HandTest");

    public static void main(String[] args) {
        see();
        hands();
        fromNow();
        CHECK.end();
    }

    private static void hand(String what, DustParish x, int many, int first, int without) {
        CHECK.due(what + ": how many", many, () -> x.hand(0));
        CHECK.due(what + ": the first", first, () -> x.hand(1));
        CHECK.due(what + ": without", without, () -> x.hand(2));
    }

    private static void see() {
        DustParish x = Check.told("pew 0 5 0;pew 1 300 0;");
        CHECK.noSuch("no room", () -> x.see(2, 31, 5));
        CHECK.noSuch("room -1", () -> x.see(-1, 0, 5));
        CHECK.due("days -1", -1, () -> x.see(0, -1, 5));
        CHECK.due("days 31", -1, () -> x.see(0, 31, 5));
        CHECK.due("much -1", -1, () -> x.see(0, 0, -1));
        CHECK.due("much 10000", -1, () -> x.see(0, 0, 10000));
        CHECK.due("STATUS", 4, () -> x.count(16));
        CHECK.due("no other STATUS", 0, () -> x.count(15));
        CHECK.due("seen", 0, () -> x.count(12));
        for (int i = 1; i <= 8; i++) {
            CHECK.due("see", i, () -> x.see(0, 30, 9999));
        }
        CHECK.due("a ninth", -1, () -> x.see(0, 0, 5));
        CHECK.noSuch("no room ahead", () -> x.see(2, 0, 5));
        CHECK.due("STATUS", 5, () -> x.count(16));
        CHECK.due("seen", 8, () -> x.count(12));
        CHECK.due("no act", 0, () -> x.count(11));
        x.forget();
        CHECK.due("forgotten", 0, () -> x.count(12));
        CHECK.due("see anew", 1, () -> x.see(0, 0, 0));
    }

    private static void hands() {
        DustParish x = Check.told("pew 0 5 0;pew 1 300 0;attic 2 0 0;pew 3 40 0;every 2;tithe dust/10;");
        CHECK.noSuch("3", () -> x.hand(3));
        CHECK.noSuch("-1", () -> x.hand(-1));
        hand("nothing seen", x, 5 + 99 + 40, 1, 1);
        x.see(1, 0, 280);
        hand("less by 20", x, 1, 120, 0);
        x.see(1, 2, 252);
        hand("behind a tithe", x, 1, 120, 0);
        x.see(0, 1, 4);
        hand("two hands are none", x, 0, -1, 0);
        x.forget();
        x.see(1, 2, 260);
        // 288 or 289 now: 288 - 28, 289 - 28 is 261, so 288 alone; 260 + 28.
        hand("cut down", x, 1, 112, 0);
        x.forget();
        x.see(3, 2, 36);
        // 40 - 4, and 39 - 3; in the others' rooms any hand.
        hand("so without", x, 5 + 99 + 1, 1, 1);
        x.forget();
        x.see(0, 0, 5);
        hand("another's room", x, 99 + 40, 101, 1);
        x.forget();
        x.see(0, 0, 0);
        hand("all of it", x, 1, 5, 0);
        x.forget();
        x.see(1, 0, 200);
        hand("more than 99", x, 0, -1, 0);
        x.forget();
        x.see(1, 0, 201);
        hand("99", x, 1, 199, 0);
        hand("nobody without rooms", new DustParish(), 0, -1, 1);
        DustParish y = Check.told("pew 0 100 0;pew 1 0 0;door 0 1 1;wind;blow 0 1 5;calendar 5 0;");
        y.see(1, 2, 45);
        hand("by the wind", y, 2, 9, 0);
        y.see(0, 30, 2);
        CHECK.due("nothing changes", 100, () -> y.room(0, 2));
    }

    private static void fromNow() {
        DustParish x = Check.told("pew 0 100 10;tithe 0;");
        x.see(0, 2, 120);
        hand("from now on", x, 0, -1, 1);
        x.days(1);
        hand("now is a day later", x, 1, 10, 0);
        x.undo();
        hand("undone", x, 0, -1, 1);
    }
}
