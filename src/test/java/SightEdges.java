/** What is SEEN, a GAME, YEARS, STATUS, an IMAGE; promises 33 to 39. */
final class SightEdges extends Edges {
    private static final String PARISH = "pew 0 100 10;chapel 1 40 5;attic 1 5 3;door 1 2 3;door 0 1 2;wind;blow 0 1 5;blow 1 2 2;"
        + "wind;blow 2 1 9;calendar 0 5 1;every 2;clean 30;tithe dust/4+brought;";

    SightEdges(Check check, Doc doc) {
        super(check, doc);
    }

    @Override
    void all() {
        see();
        seeRefused();
        hands();
        handRefused();
        forget();
        game();
        gameRests();
        gameRefused();
        years();
        seeds();
        yearsRefused();
        status();
        image();
        restore();
        notRestored();
    }

    private void see() {
        says(TERMS, "SEEN (at most 8): that in a ROOM so much (0 to 9999) lies, so many DAYS (0 to 30) on from now.");
        DustParish x = good("pew 0 100 0;attic 1 0 0;");
        int[][] sights = {{0, 0, 0}, {1, 30, 9999}, {0, 30, 0}, {1, 0, 9999}, {0, 1, 1}, {0, 29, 9998}, {0, 0, 100}, {0, 0, 100}};
        for (int i = 0; i < 8; i++) {
            int[] one = sights[i];
            due("sight " + i, i + 1, () -> x.see(one[0], one[1], one[2]));
            due("seen", i + 1, () -> x.count(12));
        }
        due("no act", 0, () -> x.count(11));
        DustParish later = good("pew 0 100 10;tithe 0;");
        later.see(0, 30, 400);
        due("30 days on", 1, () -> later.hand(2));
        later.forget();
        later.see(0, 0, 100);
        due("now", 1, () -> later.hand(2));
    }

    private void seeRefused() {
        says(33, "SEEN: how much is. NONE (STATUS 2): there are 8, not 0 to 30 DAYS, not 0 to 9999. NoSuchElementException (ahead): no such "
            + "ROOM.");
        DustParish x = good("pew 0 100 0;");
        int[][] wrong = {{-1, 5}, {31, 5}, {LEAST, 5}, {MOST, 5}, {0, -1}, {0, 10000}, {0, LEAST}, {0, MOST}, {31, 10000}};
        for (int i = 0; i < wrong.length; i++) {
            int[] one = wrong[i];
            due("days " + one[0] + ", much " + one[1], -1, () -> x.see(0, one[0], one[1]));
            due("STATUS 2", i + 1, () -> x.count(16));
            due("seen", 0, () -> x.count(12));
        }
        for (int room : new int[] {-1, 1, LEAST, MOST}) {
            noSuch("room " + room, () -> x.see(room, 0, 5));
            noSuch("ahead of days", () -> x.see(room, 31, 5));
        }
        due("no STATUS for no room", wrong.length, () -> x.count(16));
        for (int i = 1; i <= 8; i++) {
            due("how much is", i, () -> x.see(0, 0, 100));
        }
        due("a ninth", -1, () -> x.see(0, 0, 0));
        due("STATUS 2 of the ninth", wrong.length + 1, () -> x.count(16));
        due("other STATUS", 0, () -> x.count(14) + x.count(15));
        due("eight are seen", 8, () -> x.count(12));
        due("as they were", 1, () -> x.hand(2));
        noSuch("no room ahead of the ninth", () -> x.see(1, 0, 0));
    }

    private void hand(String what, DustParish x, int many, int first, int without) {
        due(what + ": how many", many, () -> x.hand(0));
        due(what + ": the first", first, () -> x.hand(1));
        due(what + ": without", without, () -> x.hand(2));
    }

    private void hands() {
        says(TERMS, "WHOSE HAND: ROOMS and how much (1 to 99), by which of one (no more than lies there), were there so much less in it now, all "
            + "SEEN would be so: how many; the first (100 by the ROOM, and how much); whether it is so without (1).");
        hand("without rooms", new DustParish(), 0, -1, 1);
        hand("nothing lies there", good("pew 0 0 0;"), 0, -1, 1);
        hand("one grain", good("pew 0 1 0;"), 1, 1, 1);
        hand("98", good("pew 0 98 0;"), 98, 1, 1);
        hand("99", good("pew 0 99 0;"), 99, 1, 1);
        hand("100", good("pew 0 100 0;"), 99, 1, 1);
        hand("of the second room", good("pew 0 0 0;pew 0 3 0;"), 3, 101, 1);
        hand("of nine rooms", good("pew 0 999 0;".repeat(9)), 9 * 99, 1, 1);
        int[][] marks = {{100, 0, -1, 1}, {99, 1, 1, 0}, {1, 1, 99, 0}, {0, 0, -1, 0}, {101, 0, -1, 0}};
        for (int[] one : marks) {
            DustParish x = good("pew 0 100 0;");
            x.see(0, 0, one[0]);
            hand("100 now, seen " + one[0], x, one[1], one[2], one[3]);
        }
        DustParish all = good("pew 0 50 0;");
        all.see(0, 0, 0);
        hand("all that lies there", all, 1, 50, 0);
        DustParish last = good("pew 0 0 0;".repeat(8) + "pew 5 999 0;");
        last.see(8, 0, 900);
        hand("the last that can be", last, 1, 899, 0);
        DustParish far = good("pew 0 100 10;tithe 0;");
        far.see(0, 30, 399);
        hand("30 days on", far, 1, 1, 0);
        far.see(0, 30, 399);
        hand("seen twice", far, 1, 1, 0);
        far.see(0, 0, 99);
        hand("seen now, too", far, 1, 1, 0);
        far.see(0, 15, 250);
        hand("one is not so", far, 0, -1, 0);
        DustParish full = good("attic 0 999 99;tithe 0;");
        full.days(30);
        full.days(15);
        full.see(0, 1, 9999);
        // 9909 now: 198 come, 108 of them are more than 9999.
        hand("what is more is lost", full, 99, 1, 1);
    }

    private void handRefused() {
        says(34, "WHOSE HAND: how many (what 0), the first (1; NONE: none), whether without (2). NoSuchElementException: another what.");
        DustParish x = good("pew 0 100 0;");
        hand("nothing seen", x, 99, 1, 1);
        x.see(0, 0, 0);
        hand("none", x, 0, -1, 0);
        for (int what : new int[] {-1, 3, LEAST, MOST}) {
            noSuch("what " + what, () -> x.hand(what));
            noSuch("without rooms", () -> new DustParish().hand(what));
        }
        dust("nothing changes", x, 100);
    }

    private void forget() {
        says(35, "All that is SEEN is forgotten.");
        DustParish x = good("pew 0 100 0;");
        for (int i = 0; i < 9; i++) {
            x.see(0, 0, i);
        }
        x.forget();
        due("seen", 0, () -> x.count(12));
        hand("nothing is seen", x, 99, 1, 1);
        due("STATUS stays", 1, () -> x.count(16));
        due("anew", 1, () -> x.see(0, 0, 99));
        hand("only what is seen anew", x, 1, 1, 0);
        x.forget();
        x.forget();
        due("nothing to forget", 0, () -> x.count(12));
    }

    private void plays(String text, int one, int other, int many, int first) {
        DustParish x = good(text);
        due("game of " + text, many, () -> x.game(one, other, 0));
        due("first of " + text, first, () -> x.game(one, other, 1));
    }

    private void game() {
        says(TERMS, "A GAME of two OWNERS: each shakes a carpet of his lowest ROOM (that with the least number) into that of the other, or "
            + "doesn't (1, 0; there need be no DOOR; both halves as they are now, cut down, at once): each loses what lies in that ROOM of "
            + "his then by tenths, cut down, and 20, if it has less than CLEAN.");
        // Losses of both, for 0 0, 0 1, 1 0, 1 1 behind each text.
        plays("pew 0 100 0;pew 1 40 0;clean 0;", 0, 1, 1, 11); // 10 4, 12 2; 5 9, 7 7
        plays("pew 0 100 0;pew 0 0 0;pew 1 40 0;pew 1 0 0;clean 0;", 0, 1, 1, 11);
        plays("pew 1 40 0;pew 0 100 0;pew 0 0 0;clean 0;", 0, 1, 1, 11);
        // 19 grains: 9 go, 10 stay; tenths: 1 0, 1 0; 1 0, 1 0.
        plays("pew 0 19 0;pew 1 0 0;clean 0;", 0, 1, 4, 0);
        // 18 grains: 9 go, 9 stay: 1 0, 1 0; 0 0, 0 0.
        plays("pew 0 18 0;pew 1 0 0;clean 0;", 0, 1, 2, 10);
        // Both at once: 20 and 20, clean 20: 2 2, 3 21; 21 3, 2 2.
        plays("pew 0 20 0;pew 1 20 0;clean 20;", 0, 1, 2, 0);
        // Clean 10: 2 2, 3 1; 1 3, 2 2: 10 is not less than 10.
        plays("pew 0 20 0;pew 1 20 0;clean 10;", 0, 1, 1, 11);
        // Clean 11: 2 2, 3 21; 21 3, 2 2.
        plays("pew 0 20 0;pew 1 20 0;clean 11;", 0, 1, 2, 0);
        // 400 or 200 and the 20: 40 0, 40 0; 40 20, 40 20.
        plays("pew 0 400 0;pew 1 0 0;clean 201;", 0, 1, 4, 0);
        // 390: 39; 195: 19 and 20: alike. 380: 38; 190: 19 and 20, one more. 420: 42; 210: 21 and 20, one less.
        plays("pew 0 390 0;pew 1 0 0;clean 201;", 0, 1, 4, 0);
        plays("pew 0 380 0;pew 1 0 0;clean 201;", 0, 1, 2, 0);
        plays("pew 0 420 0;pew 1 0 0;clean 211;", 0, 1, 2, 10);
        // Half of the other one's comes: 22 22, 3 21; 21 3, 22 22.
        plays("pew 0 20 0;pew 1 20 0;clean 25;", 0, 1, 2, 1);
        DustParish full = good("pew 0 999 99;pew 1 999 99;tithe 0;clean 0;");
        pass(full, 120);
        // 999 999, 999 500; 500 999, 999 999: what is more than 9999 is lost.
        due("full rooms", 3, () -> full.game(0, 1, 0));
        due("the first of full rooms", 1, () -> full.game(0, 1, 1));
        dust("nothing is shaken", full, 9999, 9999);
    }

    private void gameRests() {
        says(TERMS, "A couple RESTS, if neither loses less by the other choice: how many; the first (10 by the first one's, and the other "
            + "one's); none, if one has no ROOM.");
        plays("pew 0 1 0;pew 1 1 0;clean 0;", 0, 1, 4, 0);
        plays("pew 0 0 0;pew 1 40 0;clean 0;", 0, 1, 2, 1); // 0 4, 2 2; 0 4, 2 2
        plays("pew 0 40 0;pew 1 0 0;clean 0;", 0, 1, 2, 10);
        plays("pew 0 100 0;pew 1 100 0;clean 0;", 0, 1, 1, 11);
        plays("pew 0 100 0;", 0, 1, 0, -1);
        plays("pew 1 100 0;", 0, 1, 0, -1);
        plays("pew 2 100 0;", 0, 1, 0, -1);
        plays("", 0, 5, 0, -1);
        plays("pew 5 40 0;pew 0 0 0;clean 0;", 5, 0, 2, 10);
        plays("pew 5 40 0;pew 0 0 0;clean 0;", 0, 5, 2, 1);
    }

    private void gameRefused() {
        says(36, "A GAME: how many couples rest (what 0; 0: one has no ROOM), the first (1; NONE: none). NoSuchElementException: another what. "
            + "IllegalArgumentException (behind that): not 0 to 5, both are one.");
        DustParish x = good("pew 0 100 0;pew 5 40 0;clean 0;");
        due("0 and 5", 1, () -> x.game(0, 5, 0));
        due("5 and 0", 11, () -> x.game(5, 0, 1));
        for (int what : new int[] {-1, 2, LEAST, MOST}) {
            noSuch("what " + what, () -> x.game(0, 5, what));
            noSuch("what ahead of owners", () -> x.game(6, -1, what));
            noSuch("what ahead of both one", () -> x.game(0, 0, what));
        }
        for (int owner : new int[] {-1, 6, LEAST, MOST}) {
            for (int what = 0; what < 2; what++) {
                int asked = what;
                badArgument("one " + owner, () -> x.game(owner, 0, asked));
                badArgument("other " + owner, () -> x.game(0, owner, asked));
                badArgument("both " + owner, () -> x.game(owner, owner, asked));
            }
        }
        for (int i = 0; i < 6; i++) {
            int owner = i;
            badArgument("both are " + i, () -> x.game(owner, owner, 0));
            badArgument("both are " + i, () -> x.game(owner, owner, 1));
        }
    }

    /** A seed's next, as a number of 32 bits without a sign. */
    private static long next(long seed) {
        return (seed * 1103515245L + 12345L) % 4294967296L;
    }

    private static int draw(long seed, int n) {
        return (int) (seed / 65536 % 32768) % n;
    }

    /** What YEARS tell, by acts and days of another object. */
    private static int[] lived(DustParish x, int seed, int n, int... firstDoors) {
        long now = seed < 0 ? seed + 4294967296L : seed;
        int takenAhead = x.count(8);
        int unclean = 0;
        for (int i = 0; i < n; i++) {
            now = next(now);
            int room = draw(now, x.count(0));
            now = next(now);
            int what = draw(now, 4);
            if (what == 0) {
                x.sneeze(room, 10);
            } else if (what == 1 && firstDoors[room] >= 0) {
                x.shake(room, firstDoors[room]);
            }
            x.days(1);
            unclean += x.count(10) == 0 ? 0 : 1;
        }
        int most = 0;
        for (int room = 0; room < x.count(0); room++) {
            most = Math.max(most, x.room(room, 2));
        }
        return new int[] {x.count(8) - takenAhead, unclean, most};
    }

    private void years() {
        says(TERMS, "YEARS by a seed: n DAYS (0 to 60) from now on: ahead of each a DRAW of ROOMS, a DRAW of 4: 0 somebody SNEEZES there (10 "
            + "grains, or all), 1 a carpet of it is SHAKEN through its first DOOR (as told; if it has one), else nothing: what is TAKEN in "
            + "them; how many of these DAYS end with a HERETIC; the most that lies in a ROOM at the end.");
        String alone = PARISH.replace("door 1 2 3;", "pew 3 25 0;door 1 2 3;");
        for (int seed : new int[] {0, 1, 5, -1, LEAST, MOST, 1103515245}) {
            for (int n : new int[] {0, 1, 2, 30, 60}) {
                DustParish x = good(alone);
                x.days(2);
                DustParish twin = good(alone);
                twin.days(2);
                // The first door of room 1 is that to 2, which is told ahead of that to 0; room 3 has none.
                int[] due = lived(twin, seed, n, 1, 2, 1, -1);
                for (int what = 0; what < 3; what++) {
                    int asked = what;
                    due("seed " + seed + ", " + n + " days, what " + what, due[what], () -> x.years(seed, n, asked));
                }
                due("the day stays", 2, () -> x.count(6));
                due("nothing is stolen", 0, () -> x.count(9));
                due("no acts", 1, () -> x.count(11));
            }
        }
        DustParish x = good(PARISH);
        due("in no days nothing is taken", 0, () -> x.years(5, 0, 0));
        due("no day ends", 0, () -> x.years(5, 0, 1));
        due("what lies there now", 100, () -> x.years(5, 0, 2));
        // Seed 0: the first draw of 4 is 0, a sneeze.
        due("ten of eleven", 1, () -> good("pew 0 11 0;every 30;").years(0, 1, 2));
        due("ten of ten", 0, () -> good("pew 0 10 0;every 30;").years(0, 1, 2));
        due("all of nine", 0, () -> good("pew 0 9 0;every 30;").years(0, 1, 2));
    }

    private void seeds() {
        says(TERMS, "A seed becomes itself times 1103515245 and 12345 (an int that wraps); a DRAW of n is its bits 16 to 30 MOD n then. (Without "
            + "ROOMS nothing is drawn.)");
        String rooms = "pew 0 500 0;pew 0 500 0;pew 0 500 0;pew 0 500 0;pew 0 500 0;pew 0 500 0;pew 0 500 0;every 30;";
        String clean = "clean 495;";
        DustParish x = good(rooms + clean);
        int sneezes = 0;
        for (int i = 0; i < 200; i++) {
            int seed = i * 21474836 + 7 - (i % 2 == 0 ? 0 : MOST);
            long second = next(next(seed < 0 ? seed + 4294967296L : seed));
            int due = draw(second, 4) == 0 ? 1 : 0;
            sneezes += due;
            due("a sneeze by seed " + seed, due, () -> x.years(seed, 1, 1));
        }
        int many = sneezes;
        due("some sneeze, some don't", 1, () -> held(many > 20 && many < 80));
        // Which room it is shows by the door that it has, alone of all: half of it comes to the next one.
        DustParish door = good(rooms + "door 2 5 1;");
        for (int i = 0; i < 200; i++) {
            int seed = i * 10737418 - MOST + i;
            long first = next(seed + 4294967296L);
            int room = draw(first, 7);
            boolean shaken = draw(next(first), 4) == 1 && (room == 2 || room == 5);
            due("shaken by seed " + seed, shaken ? 750 : 500, () -> door.years(seed, 1, 2));
        }
        for (int what = 0; what < 3; what++) {
            int asked = what;
            due("without rooms", 0, () -> new DustParish().years(5, 60, asked));
        }
    }

    private void yearsRefused() {
        says(37, "YEARS: TAKEN (what 0), DAYS (1), the most (2; 0 without ROOMS). NoSuchElementException: another what. "
            + "IllegalArgumentException (behind that): n.");
        DustParish x = good("pew 0 999 0;every 30;");
        due("60 days: twice a tenth, less what was stolen", 1, () -> held(x.years(1, 60, 0) > 100));
        due("no heretic", 0, () -> x.years(1, 60, 1));
        due("without rooms", 0, () -> new DustParish().years(1, 60, 2));
        for (int what : new int[] {-1, 3, LEAST, MOST}) {
            noSuch("what " + what, () -> x.years(1, 5, what));
            noSuch("what ahead of n", () -> x.years(1, 61, what));
            noSuch("what ahead of n below 0", () -> x.years(1, -1, what));
        }
        for (int n : new int[] {-1, 61, LEAST, MOST}) {
            for (int what = 0; what < 3; what++) {
                int asked = what;
                badArgument("n " + n, () -> x.years(1, n, asked));
                badArgument("n without rooms", () -> new DustParish().years(1, n, asked));
            }
        }
    }

    private void status() {
        says(TERMS, "STATUS: how many calls were refused: 0 TEXTS with a FAULT, 1 ACTS, 2 what is SEEN.");
        DustParish x = good("pew 0 5 0;");
        Check.tell(x, "?");
        x.days(0);
        x.sweep(0, 0, 1);
        x.shake(0, 0);
        x.sneeze(0, 0);
        x.plan(0, 0);
        x.see(0, 31, 0);
        x.see(0, 0, 10000);
        due("texts", 1, () -> x.count(14));
        due("acts", 5, () -> x.count(15));
        due("sights", 2, () -> x.count(16));
        Check.tell(x, "pew 0 5 0;");
        due("texts over texts", 1, () -> x.count(14));
        due("acts over texts", 5, () -> x.count(15));
        due("sights over texts", 2, () -> x.count(16));
    }

    private void image() {
        says(TERMS, "AN IMAGE keeps the DAY, DUST, what was brought, TAKEN, STOLEN, the CALENDAR, ACTS that are kept, what is SEEN, STATUS.");
        says(38, "AN IMAGE is kept, in place of another one.");
        DustParish x = good("pew 0 100 0;pew 1 50 0;door 0 1 1;wind;calendar 5;every 2;");
        x.image();
        x.days(3);
        x.sneeze(0, 5);
        x.sweep(0, 1, 9);
        x.plan(0, 0);
        x.see(0, 0, 76);
        x.days(0);
        x.see(0, 31, 0);
        Check.tell(x, "?");
        x.image();
        x.undo();
        x.undo();
        x.days(30);
        x.sneeze(1, 30);
        x.forget();
        x.see(1, 1, 1);
        x.see(1, 1, 1);
        x.days(0);
        x.see(0, 31, 0);
        Check.tell(x, "clean ?");
        Check.feed(x, "clean 1;");
        due("restore", 1, () -> held(x.restore()));
        int[] due = {2, 1, 1, 1, 2, 10, 3, 130, 15, 5, 0, 4, 1, 20, 1, 1, 1};
        for (int i = 0; i < due.length; i++) {
            int what = i;
            due("count " + i, due[i], () -> x.count(what));
        }
        dust("dust", x, 76, 54);
        due("brought", 9, () -> x.room(1, 4));
        due("the calendar", 0, () -> x.wind(0));
        due("what is seen", 1, () -> x.hand(2));
        due("the fault is none of it", 6, x::fault);
        due("acts", 3, x::undo);
        due("the calendar's", 5, () -> x.wind(0));
        due("acts", 2, x::undo);
        dust("the sweep's", x, 85, 45);
        due("acts", 1, x::undo);
        due("acts", 0, x::undo);
        dust("the days'", x, 100, 50);
    }

    private void restore() {
        says(39, "It is as the IMAGE again: true.");
        DustParish x = good("pew 0 100 1;");
        x.days(1);
        x.image();
        for (int i = 0; i < 2; i++) {
            x.days(5);
            due("true", 1, () -> held(x.restore()));
            due("as it was", 1, () -> x.count(6));
            due("its acts", 1, () -> x.count(11));
        }
        due("at once again", 1, () -> held(x.restore()));
        x.undo();
        x.sneeze(0, 50);
        x.sneeze(0, 40);
        x.restore();
        due("its first act, though others stood there", 0, x::undo);
        dust("as ahead of it", x, 100);
        due("nothing is stolen", 0, () -> x.count(9));
        DustParish empty = new DustParish();
        empty.image();
        empty.days(30);
        due("without rooms", 1, () -> held(empty.restore()));
        due("the first day", 0, () -> empty.count(6));
        DustParish many = good("pew 0 999 0;");
        for (int i = 0; i < 41; i++) {
            many.sneeze(0, 1);
        }
        many.image();
        for (int i = 0; i < 41; i++) {
            many.sneeze(0, 2);
        }
        many.restore();
        for (int left = 39; left >= 0; left--) {
            int due = left;
            due("acts of the image", due, many::undo);
            due("as ahead of each", due + 1, () -> many.count(9));
        }
    }

    private void notRestored() {
        says(39, "False: there is none.");
        DustParish x = good("pew 0 100 1;");
        x.days(1);
        due("none", 0, () -> held(x.restore()));
        due("nothing changes", 1, () -> x.count(6));
        x.image();
        Check.tell(x, "pew");
        due("a text with a fault leaves it", 1, () -> held(x.restore()));
        Check.tell(x, "pew 0 5 0;");
        due("another text doesn't", 0, () -> held(x.restore()));
        dust("nothing changes", x, 5);
    }
}
