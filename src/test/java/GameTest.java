/** Promises 36 and 37: a game of carpets, years by a seed. */
public final class GameTest {
    private static final Check CHECK = new Check("GameTest");

    public static void main(String[] args) {
        games();
        wrongGames();
        seeds();
        years();
        wrongYears();
        CHECK.end();
    }

    private static void game(String text, int one, int other, int many, int first) {
        DustParish x = Check.told(text);
        CHECK.due("game of " + text, many, () -> x.game(one, other, 0));
        CHECK.due("first of " + text, first, () -> x.game(one, other, 1));
    }

    private static void games() {
        // 10 4, 12 2; 5 9, 7 7.
        game("pew 0 100 0;pew 1 40 0;clean 0;", 0, 1, 1, 11);
        // 0 0, all alike whatever they do.
        game("pew 0 1 0;pew 1 1 0;clean 0;", 0, 1, 4, 0);
        // 40 and 40, clean 30: who shakes has 20, unless the other one shakes, too: 4 4, 6 22; 22 6, 4 4.
        game("pew 0 40 0;pew 1 40 0;clean 30;", 0, 1, 2, 0);
        // 40 and 0, clean 40: 4 20, 4 20; 22 22, 22 22.
        game("pew 0 40 0;pew 1 0 0;clean 40;", 0, 1, 2, 0);
        // 0 and 40, clean 20: 20 4, 2 2; 20 4, 2 2: the other one shakes.
        game("pew 0 0 0;pew 1 40 0;clean 20;", 0, 1, 2, 1);
        // 40 and 0, clean 20: the first one shakes, whatever the other one does.
        game("pew 0 40 0;pew 1 0 0;clean 20;", 0, 1, 2, 10);
        // The lowest room of each counts, and the order of the two.
        game("pew 2 100 0;pew 1 40 0;pew 2 900 0;pew 1 0 0;clean 0;", 1, 2, 1, 11);
        game("pew 1 1 0;pew 2 100 0;clean 0;", 1, 2, 2, 1);
        game("pew 1 1 0;pew 2 100 0;clean 0;", 2, 1, 2, 10);
        // An attic that has less than clean loses 20, too: 2 4, 4 22; 21 5, 3 3.
        game("attic 0 24 0;pew 1 40 0;clean 24;", 0, 1, 2, 0);
        // 20 2, 1 21; 20 2, 1 1.
        game("pew 0 9 0;pew 1 20 0;clean 11;", 0, 1, 2, 0);
        // Who shakes half of it away is below clean: 40 or 20 and 20, 42 or 21 and 20, 38 or 19 and 20.
        game("pew 0 400 0;pew 1 0 0;clean 201;", 0, 1, 4, 0);
        game("pew 0 420 0;pew 1 0 0;clean 211;", 0, 1, 2, 10);
        game("pew 0 380 0;pew 1 0 0;clean 191;", 0, 1, 2, 0);
        game("pew 0 100 0;", 0, 1, 0, -1);
        game("pew 0 100 0;", 1, 0, 0, -1);
        game("", 4, 5, 0, -1);
        DustParish x = Check.told("pew 0 100 0;pew 1 40 0;clean 0;");
        x.game(0, 1, 0);
        CHECK.due("nothing changes", 100, () -> x.room(0, 2));
        neverAboveTheMost();
    }

    private static void neverAboveTheMost() {
        DustParish x = Check.told("pew 0 999 99;pew 1 999 99;tithe 0;clean 999;");
        for (int i = 0; i < 4; i++) {
            x.days(30);
        }
        // 999 999, 999 500; 500 999, 999 999 (5000 and 4999): what is more than 9999 costs nothing.
        CHECK.due("full rooms", 3, () -> x.game(0, 1, 0));
        CHECK.due("full rooms' first", 1, () -> x.game(0, 1, 1));
        DustParish y = Check.told("pew 0 999 99;attic 1 999 99;tithe 0;");
        y.days(30);
        y.days(30);
        CHECK.due("one is full", 9999, () -> y.room(1, 2));
        CHECK.due("both shake", 1, () -> y.game(0, 1, 0));
    }

    private static void wrongGames() {
        DustParish x = Check.told("pew 0 100 0;pew 1 40 0;");
        CHECK.noSuch("what 2", () -> x.game(0, 1, 2));
        CHECK.noSuch("what -1", () -> x.game(0, 1, -1));
        CHECK.noSuch("what ahead", () -> x.game(0, 0, 2));
        CHECK.badArgument("both are one", () -> x.game(1, 1, 0));
        CHECK.badArgument("owner 6", () -> x.game(0, 6, 0));
        CHECK.badArgument("owner -1", () -> x.game(-1, 1, 1));
        CHECK.badArgument("owner -1", () -> x.game(1, -1, 1));
        CHECK.badArgument("owner 6", () -> x.game(6, 1, 1));
    }

    /** A second telling of what a seed does, with acts and days of an object of its own. */
    private static int[] played(String text, int seed, int n, int firstDoors[]) {
        DustParish x = Check.told(text);
        int rooms = x.count(0);
        int now = seed;
        int unclean = 0;
        for (int i = 0; i < n; i++) {
            now = now * 1103515245 + 12345;
            int room = (now >> 16 & 0x7fff) % rooms;
            now = now * 1103515245 + 12345;
            int what = (now >> 16 & 0x7fff) % 4;
            if (what == 0) {
                x.sneeze(room, 10);
            } else if (what == 1 && firstDoors[room] >= 0) {
                x.shake(room, firstDoors[room]);
            }
            x.days(1);
            unclean += x.count(10) != 0 ? 1 : 0;
        }
        int most = 0;
        for (int i = 0; i < rooms; i++) {
            most = Math.max(most, x.room(i, 2));
        }
        return new int[] {x.count(8), unclean, most};
    }

    private static void years() {
        String text = "pew 0 100 10;chapel 1 40 5;attic 1 5 3;pew 2 30 0;door 1 2 3;door 0 1 2;door 0 2 1;"
            + "wind;blow 0 1 5;blow 1 2 2;wind;blow 2 1 9;calendar 0 5 1;every 2;clean 30;tithe dust/4+brought;";
        int[] firstDoors = {1, 2, 1, -1};
        int[] seeds = {0, 1, 5, -1, 123456789, Integer.MIN_VALUE, Integer.MAX_VALUE, -987654321};
        int[] lengths = {0, 1, 2, 9, 40, 60};
        for (int seed : seeds) {
            for (int n : lengths) {
                DustParish x = Check.told(text);
                int[] due = played(text, seed, n, firstDoors);
                for (int what = 0; what < 3; what++) {
                    int asked = what;
                    CHECK.due("years " + seed + " " + n + " " + what, due[what], () -> x.years(seed, n, asked));
                }
                CHECK.due("day stays", 0, () -> x.count(6));
                CHECK.due("no acts", 0, () -> x.count(11));
            }
        }
        DustParish later = Check.told(text);
        later.days(2);
        CHECK.due("what was taken ahead is none of it", 0, () -> later.years(3, 1, 0));
        DustParish none = new DustParish();
        for (int what = 0; what < 3; what++) {
            int asked = what;
            CHECK.due("without rooms", 0, () -> none.years(7, 60, asked));
        }
    }

    private static void seeds() {
        // 0 becomes 12345, then 3554416254 (as bits): bits 16 to 30 of that are 21468, which is 0 of 4.
        DustParish x = Check.told("pew 0 100 0;tithe 0;every 30;");
        CHECK.due("a sneeze", 90, () -> x.years(0, 1, 2));
        DustParish few = Check.told("pew 0 7 0;tithe 0;every 30;clean 1;");
        CHECK.due("all that lies there", 0, () -> few.years(0, 1, 2));
        CHECK.due("a heretic at the end", 1, () -> few.years(0, 1, 1));
    }

    private static void wrongYears() {
        DustParish x = Check.told("pew 0 100 0;");
        CHECK.noSuch("what 3", () -> x.years(0, 5, 3));
        CHECK.noSuch("what -1", () -> x.years(0, 5, -1));
        CHECK.noSuch("what ahead", () -> x.years(0, 61, 3));
        CHECK.badArgument("n 61", () -> x.years(0, 61, 0));
        CHECK.badArgument("n -1", () -> x.years(0, -1, 0));
    }
}
