/** ACTS; promises 11 to 16. */
final class ActEdges extends Edges {
    private static final String PARISH = "pew 0 999 0;chapel 1 500 0;attic 2 0 0;pew 3 1 0;door 0 1 1;door 1 2 1;door 0 3 1;"
        + "wind;blow 0 1 1;wind;blow 1 0 1;calendar 0 5 1;every 30;";

    ActEdges(Check check, Doc doc) {
        super(check, doc);
    }

    @Override
    void all() {
        kept();
        lastOneFirst();
        days();
        daysRefused();
        sweep();
        sweepRefused();
        shake();
        shakeRefused();
        sneeze();
        sneezeRefused();
        plan();
        planRefused();
        undo();
        undoRefused();
    }

    /** Refused as an ACT: NONE, counted, and nothing else. */
    private void refused(String what, DustParish x, Check.Call call) {
        int status = x.count(15);
        int acts = x.count(11);
        int dust = x.count(7);
        int day = x.count(6);
        due(what, -1, call);
        due(what + ": STATUS 1", status + 1, () -> x.count(15));
        due(what + ": other STATUS", 0, () -> x.count(14) + x.count(16));
        due(what + ": acts", acts, () -> x.count(11));
        due(what + ": dust", dust, () -> x.count(7));
        due(what + ": day", day, () -> x.count(6));
    }

    private void kept() {
        says(TERMS, "ACTS (at most 40 are kept, the latest ones): DAYS go by (1 to 30); a ROOM is SWEPT: so much (1 to 999; no more than lies "
            + "there) goes into a ROOM that has a DOOR with it, and is brought into that; a carpet is SHAKEN: half of a ROOM's DUST, cut "
            + "down, goes and is brought so; somebody SNEEZES in a ROOM: so much (1 to 99, or all that lies there, if that is less) is "
            + "STOLEN; the CALENDAR's i-th number becomes another.");
        for (int acts = 39; acts <= 42; acts++) {
            DustParish x = good("pew 0 999 0;");
            for (int i = 0; i < acts; i++) {
                x.sneeze(0, i < 2 ? 50 : 1);
            }
            int many = Math.min(40, acts);
            due(acts + " acts: kept", many, () -> x.count(11));
            for (int left = many - 1; left >= 0; left--) {
                int due = left;
                due(acts + " acts: left", due, x::undo);
            }
            due(acts + " acts: none left", -1, x::undo);
            int gone = 50 * Math.max(0, acts - 40);
            due(acts + " acts: stolen by those that are not kept", gone, () -> x.count(9));
            dust(acts + " acts: dust", x, 999 - gone);
        }
        DustParish each = good(PARISH);
        each.days(1);
        each.sweep(0, 1, 1);
        each.shake(0, 1);
        each.sneeze(0, 1);
        each.plan(0, 5);
        due("each is an act", 5, () -> each.count(11));
        // By the wind 99 of 999 go; of the 899 that are left by the sweep 449 are shaken.
        due("brought", 1 + 449, () -> each.room(1, 4));
    }

    private void lastOneFirst() {
        says(TERMS, "They are UNDONE, the last one first.");
        DustParish x = good(PARISH);
        x.sneeze(0, 9);
        x.plan(0, 1);
        x.days(1);
        x.shake(0, 1);
        x.sweep(1, 2, 10);
        // 990, 500; then 50 go of the chapel: 1040, 450; 520 are shaken; 10 are swept.
        dust("all", x, 520, 960, 10);
        x.undo();
        dust("the sweep", x, 520, 970, 0);
        due("brought by it", 0, () -> x.room(2, 4));
        x.undo();
        dust("the shake", x, 1040, 450, 0);
        due("brought by it", 0, () -> x.room(1, 4));
        x.undo();
        dust("the day", x, 990, 500, 0);
        due("the day", 0, () -> x.count(6));
        due("still planned", 1, () -> x.wind(0));
        x.undo();
        due("the plan", 0, () -> x.wind(0));
        due("still stolen", 9, () -> x.count(9));
        x.undo();
        dust("the sneeze", x, 999, 500, 0);
        due("nothing stolen", 0, () -> x.count(9));
        DustParish y = good("pew 0 999 0;pew 0 0 0;door 0 1 1;every 1;");
        y.sweep(0, 1, 100);
        y.days(30);
        y.undo();
        due("taken", 0, () -> y.count(8));
        due("brought as ahead of the days", 100, () -> y.room(1, 4));
    }

    private void days() {
        says(11, "DAYS go by: the DAY.");
        DustParish x = good(PARISH);
        due("1", 1, () -> x.days(1));
        due("30", 31, () -> x.days(30));
        due("the day", 31, () -> x.count(6));
        due("without rooms", 30, () -> new DustParish().days(30));
    }

    private void daysRefused() {
        says(11, "NONE (STATUS 1): not 1 to 30, it would be above 999.");
        DustParish x = good(PARISH);
        for (int many : new int[] {0, -1, 31, 999, LEAST, MOST}) {
            refused("days " + many, x, () -> x.days(many));
        }
        DustParish y = good("pew 0 0 1;tithe 0;");
        pass(y, 969);
        due("just 999", 999, () -> y.days(30));
        refused("999 and 1", y, () -> y.days(1));
        refused("999 and 30", y, () -> y.days(30));
        refused("999 and the most", y, () -> y.days(MOST));
        dust("999 days", y, 999);
        y.undo();
        due("969 again", 969, () -> y.count(6));
        due("970", 970, () -> y.days(1));
        refused("970 and 30", y, () -> y.days(30));
        due("970 and 29", 999, () -> y.days(29));
        due("days ahead go on behind 999", 999 + 99, () -> y.then(0, 99));
    }

    private void sweep() {
        says(12, "SWEPT: how much lies in the first ROOM then.");
        DustParish x = good(PARISH);
        due("1", 998, () -> x.sweep(0, 1, 1));
        due("all", 0, () -> x.sweep(0, 3, 998));
        due("all of 999", 0, () -> x.sweep(3, 0, 999));
        dust("swept", x, 999, 501, 0, 0);
        due("a chapel gets all", 1, () -> x.room(1, 4));
        due("brought", 999, () -> x.room(0, 4));
        due("against the door", 500, () -> x.sweep(1, 0, 1));
        due("into an attic", 499, () -> x.sweep(1, 2, 1));
    }

    private void sweepRefused() {
        says(12, "NONE (STATUS 1): no DOOR, not 1 to 999, more than lies in the first ROOM. NoSuchElementException (ahead): no such ROOMS.");
        DustParish x = good(PARISH);
        refused("no door", x, () -> x.sweep(0, 2, 1));
        refused("no door back", x, () -> x.sweep(1, 3, 1));
        refused("itself", x, () -> x.sweep(0, 0, 1));
        for (int much : new int[] {0, -1, LEAST, 1000, MOST}) {
            refused("much " + much, x, () -> x.sweep(0, 1, much));
        }
        refused("501 of 500", x, () -> x.sweep(1, 0, 501));
        due("500 of 500", 0, () -> x.sweep(1, 0, 500));
        refused("1 of nothing", x, () -> x.sweep(1, 0, 1));
        refused("1000 of 1499", x, () -> x.sweep(0, 1, 1000));
        due("999 of 1499", 500, () -> x.sweep(0, 1, 999));
        int status = x.count(15);
        for (int room : new int[] {-1, 4, LEAST, MOST}) {
            noSuch("from " + room, () -> x.sweep(room, 0, 1));
            noSuch("into " + room, () -> x.sweep(0, room, 1));
            noSuch("ahead of much", () -> x.sweep(0, room, 0));
            noSuch("both", () -> x.sweep(room, room, 1000));
        }
        due("no STATUS", status, () -> x.count(15));
    }

    private void shake() {
        says(13, "SHAKEN: how much.");
        int[][] halves = {{0, 0}, {1, 0}, {2, 1}, {3, 1}, {998, 499}, {999, 499}};
        for (int[] one : halves) {
            DustParish x = good("pew 0 " + one[0] + " 0;chapel 0 5 0;door 0 1 1;");
            due("half of " + one[0], one[1], () -> x.shake(0, 1));
            dust("half of " + one[0], x, one[0] - one[1], 5 + one[1]);
            due("brought of " + one[0], one[1], () -> x.room(1, 4));
            due("an act, even of nothing", 1, () -> x.count(11));
        }
        DustParish full = good("pew 0 999 99;pew 0 0 0;door 1 0 1;tithe 0;");
        pass(full, 91);
        due("half of 9999", 4999, () -> full.shake(0, 1));
        dust("half of 9999", full, 5000, 4999);
    }

    private void shakeRefused() {
        says(13, "NONE (STATUS 1): no DOOR. NoSuchElementException (ahead): no such ROOMS.");
        DustParish x = good(PARISH);
        refused("no door", x, () -> x.shake(0, 2));
        refused("itself", x, () -> x.shake(1, 1));
        int status = x.count(15);
        for (int room : new int[] {-1, 4, LEAST, MOST}) {
            noSuch("of " + room, () -> x.shake(room, 0));
            noSuch("into " + room, () -> x.shake(0, room));
            noSuch("both", () -> x.shake(room, room));
        }
        due("no STATUS", status, () -> x.count(15));
    }

    private void sneeze() {
        says(14, "SNEEZES: how much is STOLEN.");
        DustParish x = good(PARISH);
        due("1", 1, () -> x.sneeze(0, 1));
        due("99", 99, () -> x.sneeze(0, 99));
        due("stolen", 100, () -> x.count(9));
        due("all of 1", 1, () -> x.sneeze(3, 1));
        due("nothing is left", 0, () -> x.sneeze(3, 1));
        due("nothing at all", 0, () -> x.sneeze(2, 99));
        due("stolen", 101, () -> x.count(9));
        due("acts", 5, () -> x.count(11));
        dust("sneezed", x, 899, 500, 0, 0);
        DustParish y = good("pew 0 98 0;pew 0 99 0;pew 0 100 0;");
        due("99 of 98", 98, () -> y.sneeze(0, 99));
        due("99 of 99", 99, () -> y.sneeze(1, 99));
        due("99 of 100", 99, () -> y.sneeze(2, 99));
        dust("99", y, 0, 0, 1);
    }

    private void sneezeRefused() {
        says(14, "NONE (STATUS 1): not 1 to 99.");
        DustParish x = good(PARISH);
        for (int much : new int[] {0, -1, 100, 999, LEAST, MOST}) {
            refused("much " + much, x, () -> x.sneeze(0, much));
            noSuch("no such room first", () -> x.sneeze(4, much));
        }
        refused("100 of 1", x, () -> x.sneeze(3, 100));
        due("nothing stolen", 0, () -> x.count(9));
    }

    private void plan() {
        says(15, "The CALENDAR's i-th number: as it was.");
        DustParish x = good(PARISH);
        due("the first", 0, () -> x.plan(0, 1));
        due("it is so", 1, () -> x.plan(0, 1));
        due("a calm", 1, () -> x.plan(0, 5));
        due("the last", 1, () -> x.plan(2, 0));
        due("the middle", 5, () -> x.plan(1, 0));
        int[] due = {5, 0, 0};
        for (int i = 0; i < 3; i++) {
            int day = i;
            due("wind of " + i, due[i], () -> x.wind(day));
        }
        due("acts", 5, () -> x.count(11));
        DustParish most = good("wind;".repeat(5) + "calendar" + " 5".repeat(10) + ";");
        due("the tenth", 5, () -> most.plan(9, 4));
        due("it is so", 4, () -> most.wind(9));
    }

    private void planRefused() {
        says(15, "NONE (STATUS 1): no such number of it, WIND (5: a calm).");
        DustParish x = good(PARISH);
        for (int i : new int[] {-1, 3, 9, 10, LEAST, MOST}) {
            refused("place " + i, x, () -> x.plan(i, 0));
            refused("place of a calm " + i, x, () -> x.plan(i, 5));
        }
        for (int wind : new int[] {-1, 2, 3, 4, 6, LEAST, MOST}) {
            refused("wind " + wind, x, () -> x.plan(0, wind));
        }
        due("as it was", 0, () -> x.wind(0));
        DustParish none = good("wind;");
        refused("no calendar", none, () -> none.plan(0, 0));
        refused("no calendar for a calm", none, () -> none.plan(0, 5));
        DustParish calm = good("calendar 5;");
        refused("no winds", calm, () -> calm.plan(0, 0));
        due("a calm is always one", 5, () -> calm.plan(0, 5));
    }

    private void undo() {
        says(16, "The last ACT is UNDONE: how many are left.");
        DustParish x = good(PARISH);
        x.sneeze(0, 1);
        x.sneeze(0, 2);
        due("one left", 1, x::undo);
        due("stolen", 1, () -> x.count(9));
        due("none left", 0, x::undo);
        due("stolen", 0, () -> x.count(9));
        x.sneeze(0, 5);
        x.days(0);
        x.see(0, 0, 7);
        due("what was refused is none", 0, x::undo);
        due("STATUS stays", 1, () -> x.count(15));
        due("what is seen stays", 1, () -> x.count(12));
    }

    private void undoRefused() {
        says(16, "NONE: there is none.");
        DustParish x = good(PARISH);
        due("none as yet", -1, x::undo);
        x.sneeze(0, 1);
        x.undo();
        due("none more", -1, x::undo);
        due("no STATUS", 0, () -> x.count(14) + x.count(15) + x.count(16));
        dust("nothing changes", x, 999, 500, 0, 1);
        x.days(1);
        Check.tell(x, "pew 0 5 0;");
        due("none of another text", -1, x::undo);
    }
}
