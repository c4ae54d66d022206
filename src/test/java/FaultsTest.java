/** Promise 14, the faults VERSION and MUST, and which of several faults is told. */
public final class FaultsTest {
    private static final String BODY = "<b><t></t></b>";
    private static final Checks checks = new Checks();

    public static void main(String[] args) {
        version();
        must();
        keys();
        headersAreNotLookedAt();
        theFirstFaultIsTold();
        aFaultChangesNothing();
        checks.end();
    }

    private static void read(String page, int want) {
        checks.due(page, Checks.withPage(page).decode(), want);
    }

    private static void version() {
        read("<e v=\"1\">" + BODY + "</e>", 0);
        read("<e  v=\"1\"  >" + BODY + "</e>", 0);
        read("<e>" + BODY + "</e>", GraphPages.VERSION);
        read("<e v=\"\">" + BODY + "</e>", GraphPages.VERSION);
        read("<e v=\"2\">" + BODY + "</e>", GraphPages.VERSION);
        read("<e v=\"01\">" + BODY + "</e>", GraphPages.VERSION);
        read("<e v=\"11\">" + BODY + "</e>", GraphPages.VERSION);
        read("<e v=\"1 \">" + BODY + "</e>", GraphPages.VERSION);
        read("<e v=\" 1\">" + BODY + "</e>", GraphPages.VERSION);
        read("<e w=\"1\">" + BODY + "</e>", GraphPages.VERSION);
        read("<e vv=\"1\">" + BODY + "</e>", GraphPages.VERSION);
        read("<f v=\"1\">" + BODY + "</f>", GraphPages.VERSION);
        read("<ee v=\"1\">" + BODY + "</ee>", GraphPages.VERSION);
        read("<t/>", GraphPages.VERSION);
        read("<e><e v=\"1\"/></e>", GraphPages.VERSION);
        read("<e/>", GraphPages.VERSION);
        read("<e v=\"1\"/>", GraphPages.CONTENT);
    }

    private static String withHeader(String header) {
        return "<e v=\"1\">" + header + BODY + "</e>";
    }

    private static void must() {
        read(withHeader("<h/>"), 0);
        read(withHeader("<h m=\"1\"/>"), GraphPages.MUST);
        read(withHeader("<h m=\"0\"/>"), 0);
        read(withHeader("<h m=\"\"/>"), 0);
        read(withHeader("<h m=\"01\"/>"), 0);
        read(withHeader("<h m=\"11\"/>"), 0);
        read(withHeader("<h k=\"5\"/>"), 0);
        read(withHeader("<h k=\"5\" m=\"1\"/>"), GraphPages.MUST);
        read(withHeader("<h/><h m=\"2\"/><h m=\"1\"/>"), GraphPages.MUST);
        read(withHeader("<h m=\"1\"/><h/>"), GraphPages.MUST);
        read("<e v=\"1\">" + BODY + "<h m=\"1\"/></e>", GraphPages.MUST);
        read("<e v=\"1\"><x/>" + BODY + "<h m=\"1\"/></e>", GraphPages.MUST);
        // Only children of the outermost count, and only those named h.
        read(withHeader("<h><h m=\"1\"/></h>"), 0);
        read("<e v=\"1\"><x m=\"1\"/></e>", GraphPages.CONTENT);
        read("<e v=\"1\"><hh m=\"1\"/></e>", GraphPages.CONTENT);
        read("<e v=\"1\"><b><h m=\"1\"/></b></e>", GraphPages.CONTENT);
    }

    private static void keys() {
        GraphPages pages = new GraphPages();
        pages.understand(0, true);
        pages.understand(5, true);
        pages.understand(31, true);
        String[] good = {"0", "00", "5", "05", "31"};
        for (String k : good) {
            readKey(pages, k, 0);
        }
        String[] bad = {"", "1", "6", "50", "30", "32", "37", "99", "005", "5 ", " 5", "-5", "+5", "a", "5a", "/", "0:"};
        for (String k : bad) {
            readKey(pages, k, GraphPages.MUST);
        }
        GraphPages all = new GraphPages();
        for (int k = 0; k < 32; k++) {
            all.understand(k, true);
        }
        readKey(all, "32", GraphPages.MUST);
        readKey(all, "99", GraphPages.MUST);
        readKey(all, "17", 0);
        all.understand(17, false);
        readKey(all, "17", GraphPages.MUST);
        Checks.replacePage(all, withHeader("<h m=\"1\" k=\"3\"/><h m=\"1\" k=\"17\"/>"));
        checks.due("one of two is not understood", all.decode(), GraphPages.MUST);
        Checks.replacePage(all, withHeader("<h m=\"1\" kk=\"3\"/>"));
        checks.due("no k", all.decode(), GraphPages.MUST);
    }

    private static void readKey(GraphPages pages, String k, int want) {
        pages.clear();
        Checks.replacePage(pages, withHeader("<h m=\"1\" k=\"" + k + "\"/>"));
        checks.due("k=\"" + k + "\"", pages.decode(), want);
    }

    private static void headersAreNotLookedAt() {
        read(withHeader("<h x=\"y\" id=\"q\" k=\"zz\">text &amp; <b/><p id=\"1\"/><r h=\"9\"/><e>x</e></h>"), 0);
        GraphPages pages = Checks.withPage("<e v=\"1\"><h><t id=\"1\">no</t></h><h><p/></h><b><r h=\"1\"/><t id=\"1\">yes</t></b></e>");
        checks.due("decode", pages.decode(), 0);
        checks.due("graph", Checks.graph(pages), "T(yes)");
        read("<e v=\"1\"><h><t id=\"1\">no</t></h><b><r h=\"1\"/></b></e>", GraphPages.CONTENT);
        read("<e v=\"1\"><h>" + "<t/>".repeat(40) + "</h>" + BODY + "</e>", 0);
        read("<e v=\"1\"><h>&bad;</h>" + BODY + "</e>", GraphPages.FORM);
    }

    private static void theFirstFaultIsTold() {
        read("<f><h m=\"1\"/>&</f>", GraphPages.FORM);
        read("<f><h m=\"1\"/></f>", GraphPages.VERSION);
        read("<e v=\"2\"><h m=\"1\"/></e>", GraphPages.VERSION);
        read("<e v=\"1\" w=\"1\"><h m=\"1\"/></e>", GraphPages.MUST);
        read("<e v=\"1\" w=\"1\"><h m=\"2\"/></e>", GraphPages.CONTENT);
        read("<e v=\"1\">x<q/><h m=\"1\"/></e>", GraphPages.MUST);
    }

    private static void aFaultChangesNothing() {
        String[] pagesWithFaults = {
            "<e v=\"1\"><b><p><i>1</i><t>a</t></p></b></e",
            "<e v=\"2\"><b><p><i>1</i><t>a</t></p></b></e>",
            "<e v=\"1\"><h m=\"1\"/><b><p><i>1</i><t>a</t></p></b></e>",
            "<e v=\"1\"><b><p><i>1</i><t>a</t></p><a id=\"3\" n=\"2\"><i>4</i><r h=\"4\"/></a></b></e>"};
        for (String page : pagesWithFaults) {
            GraphPages pages = Checks.withPage(page);
            pages.make(0, 0);
            Checks.makeText(pages, "keep");
            pages.link(0, 0, 1);
            String before = Checks.state(pages);
            checks.due("a fault in " + page, pages.decode() < 0, true);
            checks.due("state after " + page, Checks.state(pages), before);
            pages.make(1, 4);
            checks.due("a new object is empty", Checks.show(pages, 2), "A[- - - -]");
            pages.make(2, 0);
            checks.due("a new text is empty", Checks.show(pages, 3), "T()");
        }
    }
}
