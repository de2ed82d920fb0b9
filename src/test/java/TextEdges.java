/** The terms of a text, its TOKENS, its grammar and its FAULTS; promises 1 to 4. */
final class TextEdges extends Edges {
    private static final String TWO = "pew 0 10 1;pew 1 20 2;";
    private static final String JOINED = TWO + "door 0 1 1;";
    private static final String NINE = "pew 0 0 0;".repeat(9);
    private static final String[] KINDS = {"pew", "chapel", "attic"};

    TextEdges(Check check, Doc doc) {
        super(check, doc);
    }

    @Override
    void all() {
        rooms();
        doors();
        winds();
        calendar();
        everyAndClean();
        length();
        tokens();
        lines();
        blowsOfTheLatestWind();
        expressions();
        numbersOfRules();
        values();
        firstFault();
        cannotStand();
        tooMuch();
        notKnown();
        doorFaults();
        seconds();
        noDoor();
        newObject();
        feed();
        parish();
        textBehindText();
        parishRefused();
        fault();
    }

    private static String doorsOfNine(int many) {
        StringBuilder text = new StringBuilder();
        for (int i = 0; i < many; i++) {
            text.append("door ").append(i < 8 ? 0 : 1).append(' ').append(i < 8 ? i + 1 : i - 6).append(" 1;");
        }
        return text.toString();
    }

    private void rooms() {
        says(TERMS, "ROOMS 0, 1 .. (at most 9): a KIND (0 pew, 1 chapel, 2 attic), an OWNER (0 to 5), DUST (0 to 999), "
            + "SETTLES (0 to 99 a day).");
        DustParish nine = good(NINE);
        due("nine", 9, () -> nine.count(0));
        due("the ninth", 0, () -> nine.room(8, 2));
        noSuch("the tenth", () -> nine.room(9, 2));
        due("eight", 8, () -> good("pew 0 0 0;".repeat(8)).count(0));
        for (int i = 0; i < KINDS.length; i++) {
            int kind = i;
            String word = KINDS[i];
            bad(2, NINE + "~" + word + " 0 0 0;");
            due("kind of a " + word, kind, () -> good(word + " 0 0 0;").room(0, 0));
            for (int owner = 0; owner <= 5; owner++) {
                int told = owner;
                due("owner", told, () -> good(word + " " + told + " 0 0;").room(0, 1));
            }
            bad(2, word + " ~6 0 0;");
            bad(2, word + " ~9999 0 0;");
            for (int dust : new int[] {0, 1, 998, 999}) {
                due("dust", dust, () -> good(word + " 0 " + dust + " 0;").room(0, 2));
            }
            bad(2, word + " 0 ~1000 0;");
            for (int settles : new int[] {0, 1, 98, 99}) {
                due("settles", settles, () -> good(word + " 0 0 " + settles + ";").room(0, 3));
            }
            bad(2, word + " 0 0 ~100;");
        }
    }

    private void doors() {
        says(TERMS, "DOORS (at most 14): two ROOMS, STEPS (1 to 9).");
        due("thirteen", 13, () -> good(NINE + doorsOfNine(13)).count(1));
        DustParish most = good(NINE + doorsOfNine(14));
        due("fourteen", 14, () -> most.count(1));
        due("the fourteenth", 1, () -> most.far(1, 7));
        bad(2, NINE + doorsOfNine(14) + "~door 1 8 1;");
        due("one step", 1, () -> good(TWO + "door 0 1 1;").far(0, 1));
        due("nine steps", 9, () -> good(TWO + "door 0 1 9;").far(0, 1));
        bad(2, TWO + "door 0 1 ~0;");
        bad(2, TWO + "door 0 1 ~10;");
    }

    private void winds() {
        says(TERMS, "WINDS 0, 1 .. (at most 5): rows of BLOWS (1 to 8), each from a ROOM to another one through a DOOR, TENTHS (1 to 9).");
        DustParish five = good("wind;".repeat(5));
        due("five", 5, () -> five.count(2));
        noSuch("the sixth", () -> five.blow(5, -1, 0));
        bad(2, "wind;".repeat(5) + "~wind;");
        due("one blow", 1, () -> good(JOINED + "wind;blow 0 1 1;").blow(0, -1, 0));
        DustParish eight = good(JOINED + "wind;" + "blow 0 1 1;".repeat(7) + "blow 1 0 9;");
        due("eight blows", 8, () -> eight.blow(0, -1, 0));
        due("the eighth", 9, () -> eight.blow(0, 7, 2));
        noSuch("the ninth", () -> eight.blow(0, 8, 2));
        bad(2, JOINED + "wind;" + "blow 0 1 1;".repeat(8) + "~blow 1 0 9;");
        due("eight of the next", 8, () -> good(JOINED + "wind;" + "blow 0 1 1;".repeat(8) + "wind;" + "blow 1 0 2;".repeat(8)).blow(1, -1, 0));
        due("a tenth", 1, () -> good(JOINED + "wind;blow 0 1 1;").blow(0, 0, 2));
        due("nine tenths", 9, () -> good(JOINED + "wind;blow 0 1 9;").blow(0, 0, 2));
        bad(2, JOINED + "wind;blow 0 1 ~0;");
        bad(2, JOINED + "wind;blow 0 1 ~10;");
        bad(6, JOINED + "wind;blow 0 ~0 1;");
    }

    private void calendar() {
        says(TERMS, "CALENDAR (1 to 10 numbers, each of a WIND told ahead, or 5: a calm); without, all calm.");
        due("one number", 1, () -> good("calendar 5;").count(3));
        bad(1, "calendar~;");
        due("ten numbers", 10, () -> good("calendar" + " 5".repeat(10) + ";").count(3));
        bad(2, "calendar" + " 5".repeat(10) + " ~5;");
        DustParish all = good("wind;".repeat(5) + "calendar 4 3 2 1 0 5;");
        for (int i = 0; i < 5; i++) {
            int day = i;
            due("wind of " + i, 4 - i, () -> all.wind(day));
        }
        due("a calm", 5, () -> all.wind(5));
        bad(3, "calendar ~0;");
        bad(3, "wind;calendar 0 ~1;");
        bad(3, "wind;wind;calendar ~2;wind;");
        bad(3, "wind;".repeat(5) + "calendar 4 ~6;");
        DustParish none = good(JOINED + "wind;blow 0 1 9;");
        due("no numbers", 0, () -> none.count(3));
        due("the first day", 5, () -> none.wind(0));
        due("the last day", 5, () -> none.wind(9999));
        none.days(1);
        dust("nothing blows", none, 11, 22);
    }

    private void everyAndClean() {
        says(TERMS, "EVERY (1 to 30; 7 without). CLEAN (0 to 999; 10 without). TITHE: a rule.");
        due("every 1", 1, () -> good("every 1;").count(4));
        due("every 30", 30, () -> good("every 30;").count(4));
        bad(2, "every ~0;");
        bad(2, "every ~31;");
        due("without every", 7, () -> good("clean 3;").count(4));
        due("clean 0", 0, () -> good("clean 0;").count(5));
        due("clean 999", 999, () -> good("clean 999;").count(5));
        bad(2, "clean ~1000;");
        due("without clean", 10, () -> good("every 3;").count(5));
        due("a rule", 7, () -> good("pew 0 10 0;tithe 7;").room(0, 5));
    }

    private void length() {
        says(TERMS, "A TEXT of at most 700 bytes tells it.");
        DustParish full = good(" ".repeat(690) + "clean 123;");
        due("to the last byte", 123, () -> full.count(5));
        DustParish x = new DustParish();
        String more = " ".repeat(691) + "clean 123;";
        Check.feed(x, more);
        badArgument("701 bytes", () -> x.parish(701));
        due("all but the last", 1, () -> x.parish(700));
        due("it ends too soon", 700, x::fault);
        bad(1, " ".repeat(696) + "wind~");
        bad(1, " ".repeat(694) + "every1~");
        bad(1, " ".repeat(693) + "tithe 1~");
        good(" ".repeat(692) + "clean 1;");
        good(" ".repeat(700));
        good("\n".repeat(700));
        good("tithe" + " ".repeat(693) + "1;");
        cut("tithe dusty", 10, 1, 10);
        cut("pew 0 1 2;windy", 14, 1, 14);
        cut("tithe 12345;", 10, 1, 10);
        cut("clean 12;", 8, 1, 8);
        cut("tithe notes", 9, 1, 9);
    }

    /** Of what is fed only the first n bytes are the text. */
    private void cut(String fed, int n, int fault, int place) {
        DustParish x = new DustParish();
        Check.feed(x, fed);
        due(n + " bytes of " + fed, fault, () -> x.parish(n));
        due("place in " + n + " bytes of " + fed, place, x::fault);
    }

    private void tokens() {
        says(TERMS, "TOKENS: words (a .. z, the longest row), NUMBERS (1 to 4 digits), signs ; ( ) + - * / < = ; "
            + "blanks (32, 10) between them count for nothing.");
        for (int i = 0; i < 256; i++) {
            char c = (char) i;
            if (c == 32 || c == 10) {
                good("clean 5;" + c);
                good(c + "clean 5;");
                bad(1, "tithe 1" + c + "~1;");
            } else {
                bad(1, "clean 5;~" + c);
                bad(1, "~" + c + ";");
                between(c);
            }
        }
        good("pew0 1 2;pew 0 0001 2;pew\n0\n \n1  2\n;tithe(dust+1)*2/3-4<5;");
        good("pew 0 1 2;tithe not dust=1or day<2and 3;");
        for (char c = 'a'; c <= 'z'; c++) {
            bad(3, "tithe ~" + c + ";");
            bad(1, "~pew" + c + " 0 1 2;");
            bad(1, "~" + c + "pew 0 1 2;");
        }
        bad(1, "~pewpew 0 1 2;");
        bad(1, "~pe w 0 1 2;");
        bad(1, "~p\new 0 1 2;");
        bad(1, "pew 0 1 2 ~0;");
        due("digits side by side", 12, () -> good("pew 0 12 0;").room(0, 2));
        bad(1, "pew 0 1~; 2;");
        good("clean 0999;");
        bad(2, "clean ~00999;");
        bad(3, "tithe ~no t 1;");
    }

    /** A byte between two numbers of a rule, place 7 of the text. */
    private void between(char c) {
        if ("+-*/<=".indexOf(c) >= 0 || c >= '0' && c <= '9') {
            good("tithe 1" + c + "1;");
        } else if (c == ';') {
            bad(1, "tithe 1;~1;");
        } else {
            bad(1, "tithe 1~" + c + "1;");
        }
    }

    private void lines() {
        says(TERMS, "In quotes is what stands there, [ ] perhaps, * any number of times, | one of some. PARISH: LINE*. "
            + "LINE: (('pew' | 'chapel' | 'attic') OWNER DUST SETTLES | 'door' ROOM ROOM STEPS | 'wind' | 'blow' ROOM ROOM TENTHS "
            + "| 'calendar' NUMBER NUMBER* | ('every' | 'clean') NUMBER | 'tithe' EXPR) ';', all in capitals but EXPR being NUMBERS;");
        due("no line at all", 0, () -> good("").count(0));
        good(" \n");
        String ahead = TWO + "pew 2 3 4;door 1 2 1;wind;";
        String[] lines = {"pew 0 1 2", "chapel 0 1 2", "attic 0 1 2", "door 0 1 2", "wind", "blow 1 2 3", "calendar 5", "every 1",
            "clean 1", "tithe 1"};
        for (String line : lines) {
            good(ahead + line + ";");
            String[] tokens = line.split(" ");
            StringBuilder some = new StringBuilder(ahead);
            for (int i = 0; i < tokens.length; i++) {
                some.append(tokens[i]);
                boolean isWhole = i == tokens.length - 1;
                bad(1, some + "~");
                bad(1, some + "\n ~");
                if (!isWhole) {
                    bad(1, some + "~;");
                    bad(1, some + " ~+ 1");
                    bad(i == 0 && tokens[0].equals("tithe") ? 3 : 1, some + " ~pew 1");
                } else {
                    bad(1, some + " ~pew 0 1 2;");
                    bad(1, some + " ~(");
                    bad(1, some + ";~;");
                }
                some.append(' ');
            }
            if (!tokens[0].equals("calendar")) {
                bad(1, ahead + line + " ~5;");
                bad(1, ahead + line + " ~12345;");
            }
        }
        for (String word : new String[] {"or", "and", "not", "dust", "kind", "owner", "day", "rich", "brought", "room", "a", "z"}) {
            bad(1, "~" + word + ";");
        }
    }

    private void blowsOfTheLatestWind() {
        says(TERMS, "BLOWS are of the WIND told last.");
        DustParish x = good(JOINED + "wind;blow 0 1 1;wind;blow 0 1 2;clean 1;blow 1 0 3;wind;");
        int[] due = {1, 2, 0};
        for (int i = 0; i < 3; i++) {
            int wind = i;
            due("blows of " + i, due[i], () -> x.blow(wind, -1, 0));
        }
        due("told behind another line", 3, () -> x.blow(1, 1, 2));
        noSuch("of the first one no more", () -> x.blow(0, 1, 2));
    }

    private void gives(String rule, int due) {
        DustParish x = good("pew 3 900 0;attic 3 50 0;chapel 1 800 0;door 0 1 1;every 30;tithe " + rule + ";");
        x.days(4);
        x.shake(1, 0);
        due("rule " + rule, due, () -> x.room(0, 5));
    }

    private void expressions() {
        says(TERMS, "EXPR: AND ('or' AND)*. AND: NOT ('and' NOT)*. NOT: 'not' NOT | SUM [('<' | '=') SUM]. "
            + "SUM: PRODUCT (('+' | '-') PRODUCT)*. PRODUCT: PART (('*' | '/') PART)*. PART: NUMBER | VALUE | '(' EXPR ')'.");
        gives("5", 5);
        gives("2 or 0 and 0", 1);
        gives("(2 or 0) and 0", 0);
        gives("not 0 and 0", 0);
        gives("not (0 and 0)", 1);
        gives("not 1 = 0", 1);
        gives("(not 1) = 1", 0);
        gives("not 1 < 1", 1);
        gives("1 + 1 < 3", 1);
        gives("3 < 1 + 3", 1);
        gives("3 = 1 + 2 and 2", 1);
        gives("1 + 2 * 3", 7);
        gives("(1 + 2) * 3", 9);
        gives("9 - 4 / 2", 7);
        gives("0 or 0 or 0 or 3", 1);
        gives("1 and 1 and 1 and 0", 0);
        gives("not not not 0", 1);
        // As deep and as long a rule as can wait for its end.
        String deepest = "0 or 1 and not not not not not not 7 = 1 + 2 * 3";
        for (int i = 0; i < 5; i++) {
            gives(deepest, 1);
            gives(deepest.replace("7", "8"), 0);
            deepest = "0 or 1 and not not not not not not 3 = 1 + 2 * (" + deepest + ")";
        }
        gives(deepest, 1);
        bad(1, "tithe 1 < 2 ~< 3;");
        bad(1, "tithe 1 < 2 ~= 3;");
        bad(1, "tithe 1 = 2 ~= 3;");
        bad(1, "tithe 1 = 2 + 1 * 1 ~< 3;");
        good("tithe 1 < 2 and 1 = 2 or 3 < 4;");
        good("tithe (1 < 2) = (3 < 4);");
        bad(1, "tithe ~+ 1;");
        bad(1, "tithe ~- 1;");
        bad(1, "tithe 1 + ~+ 1;");
        bad(1, "tithe 1 * ~/ 1;");
        bad(1, "tithe 1 < ~< 1;");
        bad(3, "tithe 1 or ~or 1;");
        bad(3, "tithe 1 and ~or 1;");
        bad(3, "tithe not ~or 1;");
        bad(3, "tithe 2 * ~not 1;");
        bad(3, "tithe 2 = ~not 1;");
        bad(1, "tithe 2 ~not 1;");
        bad(1, "tithe (~);");
        bad(1, "tithe (1~;");
        bad(1, "tithe 1~);");
        bad(1, "tithe ((1)~;");
        bad(1, "tithe (1 + ~);");
        bad(1, "tithe dust ~dust;");
        bad(1, "tithe dust ~1;");
        bad(1, "tithe (1) ~(2);");
    }

    private void numbersOfRules() {
        says(TERMS, "From the left; ints that wrap, / cut down to 0, by 0 gives 0; tests, not, and, or are 1 or 0 (what isn't 0 holds).");
        gives("20 - 5 - 3", 12);
        gives("20 - 5 + 3", 18);
        gives("100 / 7 * 7", 98);
        gives("100 * 7 / 70 / 5", 2);
        gives("2 - 1 - 1 - 1 + 5", 4);
        // 9999 times 9999 times 43 is 4299140043, 4172747 above 2 to the 32nd; times 22 it is below 0 as an int.
        gives("9999 * 9999 * 43 / 9999", 417);
        gives("9999 * 9999 * 22 < 0", 1);
        gives("0 - 9999 * 9999 * 22 < 0", 0);
        // -2147483648 is the least int: 1 less is the most one, less than 0 it is itself.
        gives("0 - 8192 * 8192 * 32 < 0", 1);
        gives("0 < (0 - 8192 * 8192 * 32) - 1", 1);
        gives("0 < 0 - (8192 * 8192 * 32)", 0);
        gives("(8192 * 8192 * 32) / (0 - 1) < 0", 1);
        gives("7 / 2", 3);
        gives("10 + (0 - 7) / 2", 7);
        gives("10 + 7 / (0 - 2)", 7);
        gives("10 + (0 - 1) / 2", 10);
        gives("7 / 0", 0);
        gives("7 / (1 - 1) + 2", 2);
        gives("0 / 0", 0);
        gives("2 < 3", 1);
        gives("3 < 3", 0);
        gives("4 < 3", 0);
        gives("0 - 1 < 0", 1);
        gives("3 = 3", 1);
        gives("3 = 4", 0);
        gives("not 0", 1);
        gives("not 1", 0);
        gives("not 9999", 0);
        gives("not (0 - 1)", 0);
        gives("7 and 8", 1);
        gives("7 and 0", 0);
        gives("0 and 7", 0);
        gives("(0 - 3) and 2", 1);
        gives("7 or 8", 1);
        gives("0 or 8", 1);
        gives("0 - 4 or 0", 1);
        gives("0 or 0", 0);
    }

    private void values() {
        says(TERMS, "VALUES of a ROOM on a tithe day: 'dust', 'kind', 'owner', 'day', 'rich' (how many ROOMS its OWNER has), "
            + "'brought' (how much was swept, shaken into it since the last tithe day).");
        gives("dust", 925);
        gives("kind", 0);
        gives("owner", 3);
        gives("day", 4);
        gives("rich", 2);
        gives("brought", 25);
        DustParish nine = good("attic 5 99 0;".repeat(9) + "door 0 1 1;door 0 2 1;every 2;tithe rich*10+kind;");
        due("nine rooms", 92, () -> nine.room(8, 5));
        DustParish x = good("pew 0 900 0;pew 1 0 0;door 0 1 1;every 2;tithe brought;");
        x.sweep(0, 1, 100);
        x.shake(0, 1);
        due("swept and shaken", 500, () -> x.room(1, 5));
        due("not where it was", 0, () -> x.room(0, 5));
        x.days(2);
        dust("taken on the tithe day", x, 400, 0);
        x.sweep(0, 1, 50);
        due("since the last tithe day", 50, () -> x.room(1, 5));
        DustParish y = good("pew 0 999 0;every 3;tithe day;");
        y.days(3);
        due("the day of the first tithe day", 2, () -> y.count(8));
        y.days(3);
        due("and of the second", 7, () -> y.count(8));
    }

    private void firstFault() {
        says(TERMS, "FAULTS, the first along the text, at a TOKEN's first byte, of one TOKEN the least:");
        bad(2, "pew ~6 1000 100");
        bad(6, JOINED + "wind;blow 0 ~0 99;every 0");
        bad(5, "every 1;~every 99 pew");
        bad(1, "every 1;  ~chapels 5");
        bad(2, "tithe ((((((~brought");
        // Two of one token.
        bad(2, "calendar" + " 5".repeat(10) + " ~4;");
        bad(2, "calendar" + " 5".repeat(10) + " ~00004;");
        bad(2, "door ~00000 0 1;");
        bad(2, "pew 0 0 0;door 0 ~00000 1;");
        bad(3, TWO + "wind;blow 0 ~2 1;");
        bad(2, TWO + "wind;blow 0 ~00002 1;");
        bad(2, "tithe ((((((~foo");
        bad(2, "calendar ~00001;");
    }

    private void cannotStand() {
        says(TERMS, "1 a TOKEN that can't stand there, or is none (the text's length where it ends too soon; a BLOW ahead of all WINDS);");
        bad(1, "~wing;");
        bad(1, "wind ~wind;");
        bad(1, "pew ~dust");
        bad(1, "~A");
        bad(1, "pew ~_");
        bad(1, "pew 0 0 ~");
        bad(1, "pew 0 0 0   ~");
        bad(1, "tithe (1 + 2\n~");
        bad(1, JOINED + "~blow 0 1 1;wind;");
        bad(1, "~blow");
        good(JOINED + "wind;blow 0 1 1;");
    }

    private void tooMuch() {
        says(TERMS, "2 one that can, but is too much: a NUMBER of 5 digits or more, or (not in an EXPR) not as told, the first TOKEN of "
            + "the 10th ROOM, the 15th DOOR, the 6th WIND, the 9th BLOW of a WIND, the 11th number of the CALENDAR, of an EXPR within 6 "
            + "others (a NUMBER, any word, a parenthesis), the seventh 'not' side by side;");
        good("tithe 9999;");
        bad(2, "tithe ~10000;");
        bad(2, "tithe 1+~00001;");
        bad(2, "every ~00001;");
        good("every 0001;");
        bad(2, "every ~99999999999999999999;");
        // 4294967297 is 1, if only 32 bits of it are looked at.
        bad(2, "every ~4294967297;");
        bad(1, "every 1 ~00001;");
        bad(1, "~00001;");
        bad(2, NINE + "~attic");
        bad(2, NINE + doorsOfNine(14) + "~door");
        bad(2, "wind;".repeat(5) + "~wind");
        bad(2, JOINED + "wind;" + "blow 0 1 1;".repeat(8) + "~blow");
        bad(2, "calendar" + " 5".repeat(10) + "\n~5");
        bad(1, "calendar" + " 5".repeat(10) + " ~x");
        bad(1, "calendar" + " 5".repeat(10) + " ~(");
        good("tithe (((((1)))));");
        good("tithe (((((dust)))));");
        good("tithe (((((not 1)))));");
        good("tithe (((((1)))))+(((((1)))));");
        bad(1, "tithe (((((~)");
        for (String first : new String[] {"1", "00000", "dust", "not", "or", "foo", "pew", "("}) {
            bad(2, "tithe ((((((~" + first);
            bad(2, "tithe 1+(2*(3<(4 and (5 or (6-(~" + first);
        }
        for (String first : new String[] {")", "+", ";", "<", "?", ""}) {
            bad(1, "tithe ((((((~" + first);
        }
        good("tithe " + "not ".repeat(6) + "1;");
        bad(2, "tithe " + "not ".repeat(6) + "~not 1;");
        bad(3, "tithe " + "not ".repeat(6) + "~or 1;");
        good("tithe " + "not ".repeat(6) + "(" + "not ".repeat(6) + "1);");
        good("tithe " + "not ".repeat(6) + "1 or " + "not ".repeat(6) + "1 and " + "not ".repeat(6) + "1;");
        bad(2, "tithe 1 and " + "not ".repeat(6) + "~not 1;");
        bad(2, "tithe (((((" + "not ".repeat(6) + "~not 1");
    }

    private void notKnown() {
        says(TERMS, "3 any word where a PART must stand that is no VALUE, a ROOM that isn't told ahead, a number of the CALENDAR that is "
            + "neither 5 nor a WIND told ahead;");
        for (String word : new String[] {"or", "and", "pew", "tithe", "dus", "dusts", "x"}) {
            bad(3, "tithe ~" + word + ";");
            bad(3, "tithe 1 + ~" + word + ";");
            bad(3, "tithe (((((~" + word + ")))));");
        }
        bad(3, "tithe 1 - ~not 1;");
        bad(3, "door ~0 1 1;");
        good(TWO + "door 1 0 1;");
        bad(3, TWO + "door ~2 0 1;pew 0 0 0;");
        bad(3, TWO + "door 0 ~2 1;pew 0 0 0;");
        bad(3, TWO + "door 0 ~9 1;");
        bad(3, TWO + "door 0 ~9999 1;");
        bad(3, JOINED + "wind;blow ~2 0 1;");
        bad(3, JOINED + "wind;blow 0 ~2 1;");
        bad(3, NINE + "door ~9 0 1;");
        good(NINE + "door 8 0 1;");
        bad(3, "calendar ~4;");
        bad(3, "calendar ~6;");
        bad(3, "calendar 5 ~9999;");
        good("wind;wind;calendar 1;");
        bad(3, "wind;wind;calendar ~2;");
        bad(3, "calendar ~0;wind;");
    }

    private void doorFaults() {
        says(TERMS, "4 the second ROOM of a DOOR that is the first one, or has one with it already;");
        bad(4, TWO + "door 0 ~0 1;");
        bad(4, TWO + "door 1 ~1 1;");
        bad(4, JOINED + "door 0 ~1 9;");
        bad(4, JOINED + "door 1 ~0 9;");
        good(TWO + "pew 0 0 0;door 0 1 1;door 1 2 1;door 2 0 1;");
    }

    private void seconds() {
        says(TERMS, "5 a second 'calendar', 'every', 'clean', 'tithe';");
        String[] lines = {"calendar 5;", "every 9;", "clean 9;", "tithe 9;"};
        for (String line : lines) {
            bad(5, line + "~" + line);
            bad(5, line + TWO + "~" + line.substring(0, line.indexOf(' ')));
        }
        good(String.join("", lines));
        good(TWO + TWO + "wind;wind;");
    }

    private void noDoor() {
        says(TERMS, "6 the second ROOM of a BLOW to which there is no DOOR from the first one (told ahead).");
        bad(6, TWO + "wind;blow 0 ~1 1;");
        bad(6, TWO + "wind;blow 0 ~1 1;door 0 1 1;");
        good(TWO + "wind;door 0 1 1;blow 0 1 1;blow 1 0 1;");
        bad(6, JOINED + "wind;blow 1 ~1 1;");
        bad(6, JOINED + "pew 0 0 0;door 1 2 1;wind;blow 0 ~2 1;");
    }

    private void newObject() {
        says(1, "No ROOMS.");
        DustParish x = new DustParish();
        int[] due = {0, 0, 0, 0, 7, 10, 0, 0, 0, 0, 0, 0, 0, 0, 0, 0, 0};
        for (int i = 0; i < due.length; i++) {
            int what = i;
            due("count " + i, due[i], () -> x.count(what));
        }
        noSuch("room 0", () -> x.room(0, 0));
        noSuch("wind 0", () -> x.blow(0, -1, 0));
        due("no fault", -1, x::fault);
        due("calm", 5, () -> x.wind(0));
        due("nothing to undo", -1, x::undo);
        due("no image", 0, () -> held(x.restore()));
    }

    private void feed() {
        says(2, "Twenty bytes come behind the tape, of each number the highest first: how many it has; NONE, and none come, if it would "
            + "have more than 700.");
        DustParish x = new DustParish();
        // "clean 123;" and "every 4;", each byte of the five numbers with a meaning.
        due("twenty", 20, () -> x.feed(0x636c6561, 0x6e203132, 0x333b6576, 0x65727920, 0x20343b20));
        due("read", 0, () -> x.parish(20));
        due("clean", 123, () -> x.count(5));
        due("every", 4, () -> x.count(4));
        for (int i = 1; i <= 34; i++) {
            due("feed " + i, 20 * i, () -> x.feed(0x20202020, 0x20202020, 0x20202020, 0x20202020, 0x20202020));
        }
        due("the last twenty", 700, () -> x.feed(0x20202020, 0x20202020, 0x20202063, 0x6c65616e, 0x20313b20));
        due("none come", -1, () -> x.feed(0x21212121, 0x21212121, 0x21212121, 0x21212121, 0x21212121));
        due("nor again", -1, () -> x.feed(0, 0, 0, 0, 0));
        due("the tape has", 700, () -> x.count(13));
        due("no STATUS", 0, () -> x.count(14) + x.count(15) + x.count(16));
        due("the tape is as it was", 0, () -> x.parish(700));
        due("its end was read", 1, () -> x.count(5));
        due("room again", 20, () -> x.feed(0xffffffff, 0x80808080, 0, 0x7fffffff, 0x80000000));
        due("a byte above 127 is none", 1, () -> x.parish(20));
        due("at its place", 0, x::fault);
    }

    private void parish() {
        says(3, "The tape's first n bytes (it is empty then) are a PARISH, all anew: 0, or the FAULT (all stays, but STATUS). "
            + "ACTS, what is TAKEN, STOLEN, SEEN, the image are gone, the DAY is 0.");
        DustParish x = good(JOINED + "wind;blow 0 1 5;calendar 0;every 1;clean 7;tithe 1;");
        x.sneeze(0, 3);
        x.sweep(1, 0, 2);
        x.days(2);
        x.sweep(1, 0, 1);
        x.see(0, 0, 1);
        x.image();
        x.days(0);
        x.see(0, 31, 0);
        long[] before = counts(x);
        Check.feed(x, "every 1;every 1;");
        due("a fault", 5, () -> x.parish(16));
        due("the tape is empty", 0, () -> x.count(13));
        before[14]++;
        same("stays", before, x);
        due("brought stays", 1, () -> x.room(0, 4));
        due("the image stays", 1, () -> held(x.restore()));
        x.days(0);
        x.see(0, 31, 0);
        Check.feed(x, "pew 5 44 3;chapel 4 0 0;!");
        due("only the first bytes", 0, () -> x.parish(24));
        long[] anew = {2, 0, 0, 0, 7, 10, 0, 44, 0, 0, 16, 0, 0, 0, 0, 1, 1};
        same("anew", anew, x);
        due("nothing brought", 0, () -> x.room(0, 4));
        due("no rule", 4, () -> x.room(0, 5));
        due("no image", 0, () -> held(x.restore()));
        due("no act", -1, x::undo);
        due("of no bytes", 0, () -> x.parish(0));
        due("no rooms", 0, () -> x.count(0));
    }

    /** Nothing of an earlier text, whole or with a FAULT in it, is left in the next one. */
    private void textBehindText() {
        String great = NINE.replace("pew", "chapel").replace("0 0;", "99 9;") + doorsOfNine(14)
            + "wind;blow 0 1 9;blow 1 0 9;wind;blow 0 1 9;wind;wind;wind;calendar 0 1 2 3 4 5;every 1;clean 999;tithe (1 or 2)*(3<4);";
        String[] earlier = {great, "tithe (((((1+", "tithe 1 + 2 * (3 < (not ", "every 2;clean 2;calendar 5;tithe 1 ~", great + "x", "tithe 1;tithe"};
        String small = "pew 0 70 5;pew 1 44 3;attic 0 1 1;pew 0 2 2;door 0 1 1;wind;blow 0 1 1;wind;calendar 0 5;tithe dust/2+rich;";
        String least = "pew 5 12 1;wind;";
        for (String text : earlier) {
            for (String next : new String[] {small, least}) {
                DustParish x = new DustParish();
                due("a great text", 0, () -> Check.tell(x, great));
                due("once more", 0, () -> Check.tell(x, great));
                Check.tell(x, text);
                due("told behind " + text, 0, () -> Check.tell(x, next));
                alike("behind " + text, good(next), x);
            }
        }
    }

    /** Two objects of which one has had other texts: all that a text tells, and what comes of it. */
    private void alike(String when, DustParish due, DustParish x) {
        for (int i = 0; i < 13; i++) {
            int what = i;
            due(when + ": count " + i, due.count(i), () -> x.count(what));
        }
        for (int i = 0; i < 63; i++) {
            int at = i;
            due(when + ": room " + i, Check.ask(() -> due.room(at / 7, at % 7)), () -> x.room(at / 7, at % 7));
        }
        for (int i = 0; i < 9; i++) {
            int at = i;
            due(when + ": far " + i, Check.ask(() -> due.far(0, at)), () -> x.far(0, at));
            due(when + ": wind " + i, due.wind(i), () -> x.wind(at));
            due(when + ": blows " + i, Check.ask(() -> due.blow(at, -1, 0)), () -> x.blow(at, -1, 0));
            due(when + ": lost " + i, due.lost(i), () -> x.lost(at));
            due(when + ": taken " + i, due.taken(9 * i), () -> x.taken(9 * at));
            due(when + ": years " + i, due.years(i, 60, i % 3), () -> x.years(at, 60, at % 3));
        }
        for (int owner = 0; owner < 6; owner++) {
            int of = owner;
            due(when + ": riches " + owner, due.riches(owner), () -> x.riches(of));
        }
        due(when + ": shares", due.shares(2), () -> x.shares(2));
        due(when + ": alms", due.alms(), x::alms);
        due(when + ": heresy", due.heresy(), x::heresy);
        due(when + ": hands", due.hand(0), () -> x.hand(0));
    }

    private static long[] counts(DustParish x) {
        long[] all = new long[17];
        for (int i = 0; i < all.length; i++) {
            all[i] = x.count(i);
        }
        return all;
    }

    private void same(String when, long[] due, DustParish x) {
        for (int i = 0; i < due.length; i++) {
            int what = i;
            due(when + ": count " + i, due[i], () -> x.count(what));
        }
    }

    private void parishRefused() {
        says(3, "IllegalArgumentException: the tape has not so many, n below 0 (nothing changes).");
        DustParish x = good(JOINED);
        x.sneeze(0, 3);
        Check.tell(x, "pew ?");
        badArgument("an empty tape has not one", () -> x.parish(1));
        Check.feed(x, "clean 99;");
        long[] before = counts(x);
        for (int n : new int[] {21, 700, 701, MOST, -1, -20, LEAST}) {
            badArgument("n " + n, () -> x.parish(n));
        }
        same("nothing changes", before, x);
        due("fault stays", 4, x::fault);
        due("all that the tape has", 0, () -> x.parish(20));
        due("clean", 99, () -> x.count(5));
    }

    private void fault() {
        says(4, "The place of the latest parish()'s FAULT; NONE without.");
        DustParish x = new DustParish();
        due("none as yet", -1, x::fault);
        Check.tell(x, "clean 1;every 0;");
        due("of the first", 14, x::fault);
        Check.tell(x, "?");
        due("of the latest", 0, x::fault);
        Check.tell(x, " ".repeat(699) + "?");
        due("the last byte's", 699, x::fault);
        Check.tell(x, "clean 1;");
        due("none now", -1, x::fault);
    }
}
