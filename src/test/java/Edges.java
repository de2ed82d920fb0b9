/** What the tests of edges share: the sentence of the document that a test holds to, and calls at its edge. */
abstract class Edges {
    static final int TERMS = 0;
    static final int LEAST = Integer.MIN_VALUE;
    static final int MOST = Integer.MAX_VALUE;

    final Check check;
    private final Doc doc;
    private String sentence = "";

    Edges(Check check, Doc doc) {
        this.check = check;
        this.doc = doc;
    }

    abstract void all();

    /** The test that follows holds to these words of a promise (or of the terms). */
    final void says(int section, String words) {
        sentence = (section == TERMS ? "terms" : "promise " + section) + ", \"" + words + "\"";
        if (doc.isThere()) {
            check.due("the document says: " + sentence, 1, () -> doc.says(section, words) ? 1 : 0);
        }
    }

    final void due(String what, long want, Check.Call call) {
        check.due(sentence + ": " + what, want, call);
    }

    final void noSuch(String what, Check.Call call) {
        check.noSuch(sentence + ": " + what, call);
    }

    final void badArgument(String what, Check.Call call) {
        check.badArgument(sentence + ": " + what, call);
    }

    /** A text without a FAULT. */
    final DustParish good(String text) {
        DustParish x = new DustParish();
        due("parish of " + text, 0, () -> Check.tell(x, text));
        due("fault of " + text, -1, x::fault);
        due("STATUS of " + text, 0, () -> x.count(14));
        return x;
    }

    /** A text with a FAULT; its place is told by the sign ~ that is taken out of the text. */
    final void bad(int fault, String marked) {
        int place = marked.indexOf('~');
        String text = marked.substring(0, place) + marked.substring(place + 1);
        DustParish x = new DustParish();
        due("parish of " + marked, fault, () -> Check.tell(x, text));
        due("fault of " + marked, place, x::fault);
        due("STATUS of " + marked, 1, () -> x.count(14));
    }

    final void dust(String when, DustParish x, int... due) {
        for (int i = 0; i < due.length; i++) {
            int room = i;
            due(when + ": dust of " + i, due[i], () -> x.room(room, 2));
        }
    }

    static void pass(DustParish x, int days) {
        for (int left = days; left > 0; left -= 30) {
            x.days(Math.min(30, left));
        }
    }

    static int held(boolean holds) {
        return holds ? 1 : 0;
    }
}
