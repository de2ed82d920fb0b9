/** Promises 1 to 4: a new object, the tape, the text and its FAULTS. */
public final class TextTest {
    private static final Check CHECK = new Check("TextTest");
    private static final String TWO = "pew 0 10 1;pew 1 20 2;";

    private static void good(String text) {
        DustParish x = new DustParish();
        CHECK.due("parish of " + text, 0, () -> Check.tell(x, text));
        CHECK.due("fault of " + text, -1, x::fault);
        CHECK.due("STATUS of " + text, 0, () -> x.count(14));
    }

    /** The place of the FAULT is told by the sign ~ that is taken out of the text. */
    private static void bad(int fault, String marked) {
        int place = marked.indexOf('~');
        String text = marked.substring(0, place) + marked.substring(place + 1);
        DustParish x = new DustParish();
        CHECK.due("parish of " + marked, fault, () -> Check.tell(x, text));
        CHECK.due("fault of " + marked, place, x::fault);
        CHECK.due("STATUS of " + marked, 1, () -> x.count(14));
        CHECK.due("rooms of " + marked, 0, () -> x.count(0));
    }

    private static String times(int n, String text) {
        return text.repeat(n);
    }

    public static void main(String[] args) {
        newObject();
        tape();
        parishCall();
        tokens();
        lines();
        tooMuch();
        meanings();
        expressions();
        zeroBlows();
        textBehindText();
        CHECK.end();
    }

    private static void newObject() {
        DustParish x = new DustParish();
        int[] due = {0, 0, 0, 0, 7, 10, 0, 0, 0, 0, 0, 0, 0, 0, 0, 0, 0};
        for (int i = 0; i < due.length; i++) {
            int what = i;
            CHECK.due("new count " + i, due[i], () -> x.count(what));
        }
        CHECK.due("new fault", -1, x::fault);
        CHECK.noSuch("new room", () -> x.room(0, 2));
    }

    private static void tape() {
        DustParish x = new DustParish();
        for (int i = 1; i <= 35; i++) {
            CHECK.due("feed", 20 * i, () -> x.feed(0x3b3b3b3b, 0x20202020, 0, -1, 1));
        }
        CHECK.due("feed of too much", -1, () -> x.feed(1, 2, 3, 4, 5));
        CHECK.due("tape stays", 700, () -> x.count(13));
        CHECK.due("parish of a full tape", 1, () -> x.parish(700));
        CHECK.due("fault", 0, x::fault);
        CHECK.due("tape is empty", 0, () -> x.count(13));
        CHECK.due("feed once more", 20, () -> x.feed(0x70657720, 0x30203120, 0x323b2020, 0x20202020, 0x20202020));
        CHECK.due("highest byte first", 0, () -> x.parish(20));
        CHECK.due("a pew", 1, () -> x.count(0));
        CHECK.due("its dust", 1, () -> x.room(0, 2));
        CHECK.due("its settles", 2, () -> x.room(0, 3));
        DustParish y = new DustParish();
        String full = "clean 5;" + times(692, " ");
        CHECK.due("a text of 700 bytes", 0, () -> Check.tell(y, full));
        CHECK.due("clean", 5, () -> y.count(5));
    }

    private static void parishCall() {
        DustParish x = Check.told(TWO + "door 0 1 3;clean 15;");
        x.sneeze(0, 5);
        x.see(0, 0, 5);
        x.image();
        x.days(30);
        Check.feed(x, "pew 0 1 1;");
        CHECK.badArgument("n below 0", () -> x.parish(-1));
        CHECK.badArgument("n above the tape", () -> x.parish(21));
        CHECK.badArgument("n far above", () -> x.parish(Integer.MAX_VALUE));
        CHECK.badArgument("n far below", () -> x.parish(Integer.MIN_VALUE));
        CHECK.due("tape stays", 20, () -> x.count(13));
        CHECK.due("STATUS stays", 0, () -> x.count(14));
        CHECK.due("only the first bytes", 1, () -> x.parish(9));
        CHECK.due("ends too soon", 9, x::fault);
        CHECK.due("tape is gone", 0, () -> x.count(13));
        CHECK.due("rooms stay", 2, () -> x.count(0));
        CHECK.due("day stays", 30, () -> x.count(6));
        CHECK.due("acts stay", 2, () -> x.count(11));
        CHECK.due("stolen stays", 5, () -> x.count(9));
        CHECK.due("seen stays", 1, () -> x.count(12));
        CHECK.due("clean stays", 15, () -> x.count(5));
        CHECK.due("image stays", 1, () -> x.restore() ? 1 : 0);
        x.days(30);
        CHECK.due("all anew", 0, () -> x.parish(0));
        CHECK.due("fault is gone", -1, x::fault);
        int[] due = {0, 0, 0, 0, 7, 10, 0, 0, 0, 0, 0, 0, 0, 0, 0, 0, 0};
        for (int i = 0; i < due.length; i++) {
            int what = i;
            CHECK.due("anew count " + i, due[i], () -> x.count(what));
        }
        CHECK.due("image is gone", 0, () -> x.restore() ? 1 : 0);
        DustParish y = new DustParish();
        CHECK.due("a fault", 1, () -> Check.tell(y, "x"));
        CHECK.due("refused act", -1, () -> y.days(0));
        CHECK.due("a good one", 0, () -> Check.tell(y, TWO));
        CHECK.due("STATUS 0 counts on", 1, () -> y.count(14));
        CHECK.due("STATUS 1 counts on", 1, () -> y.count(15));
    }

    private static void tokens() {
        good("");
        good(" \n \n");
        good("pew 0 1 2;");
        good("pew0 1 2;chapel5 999 99;attic 0 0 0 ;");
        good("\npew\n0\n0001\n02\n;\n");
        good("tithe dust<5and kind=1or not owner;");
        bad(1, "~P");
        bad(1, "~\t");
        bad(1, "pew~\t0 1 2;");
        bad(1, "~;");
        bad(1, "~5;");
        bad(1, "~pews 0 1 2;");
        bad(1, "~pewchapel 0 1 2;");
        bad(1, "~pewz 0 1 2;");
        bad(1, "~zpew 0 1 2;");
        bad(1, "~apew 0 1 2;");
        bad(1, "~pex 0 1 2;");
        bad(1, "~hew 0 1 2;");
        bad(1, "pew~{ 0 1 2;");
        bad(1, "pew~` 0 1 2;");
        bad(1, "pew 0~: 1 2;");
        bad(1, "pew~P 0 1 2;");
        bad(1, "pew 0~, 1 2;");
        bad(1, "pew 0 1 2;~\u00e9");
        bad(1, "pew 0 1 2;~\0");
        bad(1, "pew 0 1 2;~>");
        bad(2, "pew ~00000 1 2;");
        bad(2, "pew 0 ~123456789012345678901234567890 2;");
        bad(1, "pew 0 1 2 ~12345;");
        bad(1, "~12345;");
    }

    private static void lines() {
        bad(1, "pew~");
        bad(1, "pew   ~");
        bad(1, "pew 0 1 2~");
        bad(1, "pew 0 1 2\n~");
        bad(1, "pew 0 1~;");
        bad(1, "pew 0 1 2 ~3;");
        bad(1, "pew 0 1 2 ~pew 0 1 2;");
        bad(1, TWO + "door 0 1~;");
        bad(1, TWO + "door 0 1 1 ~1;");
        bad(1, TWO + "wind ~0;");
        bad(1, TWO + "wind~");
        bad(1, TWO + "door 0 1 1;wind;blow 0 1~;");
        bad(1, TWO + "door 0 1 1;~blow 0 1 1;");
        bad(1, "calendar~;");
        bad(1, "calendar ~pew;");
        bad(1, "calendar 5 ~pew;");
        bad(1, "calendar 5 5~");
        bad(1, "every~;");
        bad(1, "every 5 ~5;");
        bad(1, "clean ~dust;");
        bad(1, "tithe~");
        bad(1, "tithe~;");
        bad(1, "tithe 5~");
        bad(1, "~dust;");
        bad(1, "~tithes 5;");
    }

    private static void tooMuch() {
        good("pew 5 999 99;");
        bad(2, "pew ~6 0 0;");
        bad(2, "pew 0 ~1000 0;");
        bad(2, "pew 0 0 ~100;");
        good(TWO + "door 0 1 9;");
        bad(2, TWO + "door 0 1 ~10;");
        bad(2, TWO + "door 0 1 ~0;");
        good(TWO + "door 0 1 1;wind;blow 0 1 9;blow 1 0 1;");
        bad(2, TWO + "door 0 1 1;wind;blow 0 1 ~0;");
        bad(2, TWO + "door 0 1 1;wind;blow 0 1 ~10;");
        good("every 30;clean 999;");
        good("every 1;clean 0;");
        bad(2, "every ~0;");
        bad(2, "every ~31;");
        bad(2, "clean ~1000;");
        bad(2, "clean ~10000;");
        good(times(9, "pew 0 0 0;"));
        bad(2, times(9, "pew 0 0 0;") + "~attic 0 0 0;");
        bad(2, times(9, "pew 0 0 0;") + "~chapel");
        String doors = "";
        for (int i = 0; i < 14; i++) {
            doors += "door " + (i < 8 ? 0 : 1) + " " + (i < 8 ? i + 1 : i - 6) + " 1;";
        }
        good(times(9, "pew 0 0 0;") + doors);
        bad(2, times(9, "pew 0 0 0;") + doors + "~door 9 9 9;");
        good(times(5, "wind;"));
        bad(2, times(5, "wind;") + "~wind;");
        String blows = TWO + "door 0 1 1;wind;" + times(8, "blow 0 1 1;");
        good(blows);
        bad(2, blows + "~blow 0 1 1;");
        good(blows + "wind;" + times(8, "blow 1 0 1;"));
        good("calendar 5 5 5 5 5 5 5 5 5 5;");
        bad(2, "calendar 5 5 5 5 5 5 5 5 5 5 ~5;");
        bad(2, "calendar 5 5 5 5 5 5 5 5 5 5 ~7;");
        bad(1, "calendar 5 5 5 5 5 5 5 5 5 5 ~x;");
        bad(2, "calendar ~00005;");
    }

    private static void meanings() {
        bad(3, "door ~0 0 1;");
        bad(3, TWO + "door ~2 0 1;");
        bad(3, TWO + "door 0 ~2 1;");
        bad(3, TWO + "door 0 ~9999 1;");
        bad(2, TWO + "door 0 ~99999 1;");
        bad(3, TWO + "wind;blow ~2 0 1;");
        bad(3, TWO + "wind;blow 0 ~2 1;");
        bad(3, "calendar ~0;");
        bad(3, "calendar 5 ~4;wind;");
        bad(3, "wind;calendar 0 ~1;");
        bad(3, "calendar ~6;");
        good("wind;wind;calendar 1 0 5;");
        good(times(5, "wind;") + "calendar 0 1 2 3 4 5;");
        bad(4, TWO + "door 0 ~0 1;");
        bad(4, TWO + "door 0 1 1;door 0 ~1 2;");
        bad(4, TWO + "door 0 1 1;door 1 ~0 2;");
        bad(5, "calendar 5;~calendar 5;");
        bad(5, "every 5;~every 5;");
        bad(5, "clean 5;~clean 5;");
        bad(5, "tithe 5;~tithe 5;");
        bad(5, "every 7;~every");
        bad(6, TWO + "wind;blow 0 ~1 1;");
        bad(6, TWO + "door 0 1 1;wind;blow 0 ~0 1;");
        bad(6, TWO + "pew 0 0 0;door 0 1 1;wind;blow 0 ~2 1;door 0 2 1;");
        good(TWO + "door 0 1 1;wind;blow 1 0 1;");
    }

    private static void expressions() {
        good("tithe 0;");
        good("tithe dust+kind-owner*day/rich<brought;");
        good("tithe (((((1)))));");
        bad(2, "tithe ((((((~1))))));");
        bad(2, "tithe ((((((~dust");
        bad(2, "tithe ((((((~foo");
        bad(2, "tithe ((((((~not 1");
        bad(2, "tithe ((((((~(");
        bad(1, "tithe ((((((~)");
        bad(1, "tithe ((((((~+");
        bad(1, "tithe ((((((~");
        good("tithe not not not not not not 1;");
        bad(2, "tithe not not not not not not ~not 1;");
        good("tithe not not not not not not (not not not not not not 1);");
        good("tithe not not not not not not 1 and not not not not not not 1;");
        bad(3, "tithe ~foo;");
        bad(3, "tithe ~and;");
        bad(3, "tithe 1 + ~or 2;");
        bad(3, "tithe 1 + ~not 2;");
        bad(3, "tithe 1 < ~not 2;");
        bad(3, "tithe 1 * ~pew;");
        bad(3, "tithe not ~and;");
        bad(3, "tithe (~tithe);");
        bad(1, "tithe 1 ~not 2;");
        bad(1, "tithe 1 ~2;");
        bad(1, "tithe 1 ~dust;");
        bad(1, "tithe 1 ~foo;");
        bad(1, "tithe 1 ~(2);");
        bad(1, "tithe 1 < 2 ~< 3;");
        bad(1, "tithe 1 < 2 + 3 ~= 3;");
        bad(1, "tithe 1 = 2 * 3 ~< 3;");
        bad(1, "tithe not 1 = 2 ~< 3;");
        good("tithe (1 < 2) < 3;");
        good("tithe 1 < (2 < 3);");
        good("tithe 1 < 2 and 2 < 3 or 3 = 4;");
        bad(1, "tithe (1~;");
        bad(1, "tithe 1~);");
        bad(1, "tithe (1)~);");
        bad(1, "tithe (~);");
        bad(1, "tithe ~-1;");
        bad(1, "tithe 1 + ~;");
        bad(1, "tithe 1 +~");
        bad(1, "tithe 1 and~");
        bad(1, "tithe not ~;");
        bad(1, "tithe 1 ~> 2;");
        good("tithe 9999;");
        bad(2, "tithe ~10000;");
        bad(2, "tithe 1 + ~00000;");
        bad(1, "tithe 1 ~00000;");
        good("tithe " + times(346, "1+") + "1;");
    }

    private static void textBehindText() {
        String whole = "pew 0 10 1;chapel 1 20 2;attic 1 30 3;door 0 1 2;door 1 2 1;wind;blow 0 1 1;blow 0 1 2;wind;blow 1 0 1;"
            + "calendar 0 1 5;every 3;clean 12;tithe dust and (not kind or day);";
        String[] bad = {"pew 0 1", whole + "tithe", whole.replace("day", "(((((("), "every 2;clean 2;calendar 5;tithe 1 <"};
        DustParish x = new DustParish();
        for (int i = 0; i < bad.length; i++) {
            String spoilt = bad[i];
            CHECK.due("whole", 0, () -> Check.tell(x, whole));
            x.sweep(1, 0, 5);
            CHECK.due("rule", 1, () -> x.room(0, 5));
            CHECK.due("blows", 2, () -> x.blow(0, -1, 0));
            CHECK.due("spoilt " + spoilt, 1, () -> Math.min(1, Check.tell(x, spoilt)));
            CHECK.due("rule stays", 1, () -> x.room(0, 5));
            CHECK.due("dust stays", 15, () -> x.room(0, 2));
            CHECK.due("far stays", 3, () -> x.far(0, 2));
            CHECK.due("little", 0, () -> Check.tell(x, "pew 4 33 1;attic 1 7 0;wind;"));
            int[] due = {2, 0, 1, 0, 7, 10, 0, 40, 0, 0, 0, 0, 0, 0, i + 1, 0, 0};
            for (int j = 0; j < due.length; j++) {
                int what = j;
                CHECK.due("anew count " + j, due[j], () -> x.count(what));
            }
            CHECK.due("no rule", 3, () -> x.room(0, 5));
            CHECK.due("nothing brought", 0, () -> x.room(0, 4));
            CHECK.due("no way", -1, () -> x.far(0, 1));
            CHECK.due("no door", 0, () -> x.room(0, 6));
            CHECK.due("no blows", 0, () -> x.blow(0, -1, 0));
            CHECK.due("calm", 5, () -> x.wind(0));
            CHECK.due("rich anew", 0, () -> Check.tell(x, "pew 1 33 1;tithe rich;"));
            CHECK.due("rich", 1, () -> x.room(0, 5));
        }
    }

    private static void zeroBlows() {
        DustParish x = Check.told(TWO + "wind;calendar 0;");
        CHECK.due("a wind without blows", 0, () -> x.blow(0, -1, 0));
        CHECK.noSuch("its first", () -> x.blow(0, 0, 0));
        CHECK.due("it moves nothing", 1, () -> x.days(1));
        CHECK.due("dust", 11, () -> x.room(0, 2));
    }
}
