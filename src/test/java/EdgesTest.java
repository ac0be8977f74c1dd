import java.io.IOException;

/** Each sentence of the document's terms and promises has a test of its own, and none is left out. */
public final class EdgesTest extends Edges {
    private EdgesTest() {
    }

    public static void main(String[] args) throws IOException {
        Document document = new Document();
        open(document);
        MemberEdges.all();
        SpouseEdges.all();
        PaymentEdges.all();
        TextEdges.all();
        ToldEdges.all();
        MonthEdges.all();
        WorthEdges.all();
        at("no test is of");
        for (String words : document.unquoted()) {
            amiss(words);
        }
        finish("of " + sentences() + " sentences");
    }
}
