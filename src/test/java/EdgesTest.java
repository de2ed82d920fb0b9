import java.util.List;

/**
 * The document read sentence by sentence: at each edge that it names the last input that is still taken, the
 * first that is not, and what is answered there. Ends wrong if a sentence is held to by no test.
 */
public final class EdgesTest {
    public static void main(String[] args) {
        Check check = new Check("EdgesTest");
        Doc doc = new Doc();
        Edges[] parts = {new TextEdges(check, doc), new DayEdges(check, doc), new ActEdges(check, doc), new AskEdges(check, doc),
            new SightEdges(check, doc)};
        for (Edges part : parts) {
            part.all();
        }
        if (doc.isThere()) {
            List<String> unsaid = doc.unsaid();
            check.due("sentences that no test holds to: " + unsaid, 0, unsaid::size);
        } else {
            System.out.println("EdgesTest: ../shared/DOC.md is not here, its words were not looked at");
        }
        check.end();
    }
}
