/** Promises 12 and 13: which objects are shared, and the page that is written. */
public final class WritingTest {
    private static final Checks checks = new Checks();

    public static void main(String[] args) {
        pairsAndInts();
        texts();
        arrays();
        sharing();
        rings();
        idsFollowTheFirstReferences();
        onlyWhatIsReachedCounts();
        idsOfTwoDigits();
        deepest();
        refused();
        checks.end();
    }

    private static void written(GraphPages pages, int x, int wantShared, String wantBody) {
        String want = "<e v=\"1\"><b>" + wantBody + "</b></e>";
        String graph = Checks.graph(pages);
        checks.due("shared of " + wantBody, pages.shared(x), wantShared);
        checks.due("encode of " + wantBody, pages.encode(x), want.length());
        checks.due("length", pages.length(), want.length());
        checks.due("page", Checks.pageOf(pages), want);
        checks.due("the graph stays", Checks.graph(pages), graph);
    }

    private static void pairsAndInts() {
        GraphPages pages = new GraphPages();
        pages.make(0, 0);
        written(pages, 0, 0, "<p><n/><n/></p>");
        int[] numbers = {0, 7, -1, 10, -10, 99, 100, 1000000000, 999999999, 2147483647, -2147483648, 2000000009};
        String[] texts = {"0", "7", "-1", "10", "-10", "99", "100", "1000000000", "999999999", "2147483647",
            "-2147483648", "2000000009"};
        for (int i = 0; i < numbers.length; i++) {
            pages.put(0, 1, numbers[i]);
            written(pages, 0, 0, "<p><n/><i>" + texts[i] + "</i></p>");
        }
        pages.make(0, 0);
        pages.link(0, 0, 1);
        pages.put(1, 0, 5);
        written(pages, 0, 0, "<p><p><i>5</i><n/></p><i>2000000009</i></p>");
    }

    private static void texts() {
        GraphPages pages = new GraphPages();
        Checks.makeText(pages, "");
        Checks.makeText(pages, "<>&\"'/");
        Checks.makeText(pages, " ~a  #");
        Checks.makeText(pages, "&amp;");
        written(pages, 0, 0, "<t></t>");
        written(pages, 1, 0, "<t>&lt;&gt;&amp;\"'/</t>");
        written(pages, 2, 0, "<t> ~a  #</t>");
        written(pages, 3, 0, "<t>&amp;amp;</t>");
    }

    private static void arrays() {
        GraphPages pages = new GraphPages();
        pages.make(1, 0);
        pages.make(1, 4);
        pages.make(1, 1);
        written(pages, 0, 0, "<a n=\"0\"></a>");
        written(pages, 1, 0, "<a n=\"4\"></a>");
        written(pages, 2, 0, "<a n=\"1\"></a>");
        pages.put(1, 0, 0);
        written(pages, 1, 0, "<a n=\"4\"><i>0</i></a>");
        pages.put(1, 2, 8);
        written(pages, 1, 0, "<a n=\"4\"><i>0</i><n/><i>8</i></a>");
        pages.link(1, 0, -1);
        written(pages, 1, 0, "<a n=\"4\" o=\"2\"><i>8</i></a>");
        pages.link(1, 2, -1);
        pages.link(1, 3, 2);
        written(pages, 1, 0, "<a n=\"4\" o=\"3\"><a n=\"1\"></a></a>");
        pages.put(1, 1, -3);
        written(pages, 1, 0, "<a n=\"4\" o=\"1\"><i>-3</i><n/><a n=\"1\"></a></a>");
    }

    private static void sharing() {
        GraphPages pages = new GraphPages();
        int pair = pages.make(0, 0);
        int text = Checks.makeText(pages, "q");
        int array = pages.make(1, 2);
        pages.link(pair, 0, text);
        pages.link(pair, 1, text);
        written(pages, pair, 1, "<p><r h=\"1\"/><r h=\"1\"/></p><t id=\"1\">q</t>");
        pages.link(pair, 1, array);
        written(pages, pair, 0, "<p><t>q</t><a n=\"2\"></a></p>");
        pages.link(array, 1, text);
        written(pages, pair, 1, "<p><r h=\"1\"/><a n=\"2\" o=\"1\"><r h=\"1\"/></a></p><t id=\"1\">q</t>");
        pages.link(array, 0, array);
        written(pages, pair, 2,
            "<p><r h=\"1\"/><r h=\"2\"/></p><t id=\"1\">q</t><a id=\"2\" n=\"2\"><r h=\"2\"/><r h=\"1\"/></a>");
    }

    private static void rings() {
        GraphPages pages = new GraphPages();
        int one = pages.make(0, 0);
        int two = pages.make(1, 3);
        pages.link(one, 0, one);
        written(pages, one, 1, "<r h=\"1\"/><p id=\"1\"><r h=\"1\"/><n/></p>");
        pages.link(one, 0, two);
        pages.link(two, 2, one);
        written(pages, one, 1, "<r h=\"1\"/><p id=\"1\"><a n=\"3\" o=\"2\"><r h=\"1\"/></a><n/></p>");
        written(pages, two, 1, "<r h=\"1\"/><a id=\"1\" n=\"3\" o=\"2\"><p><r h=\"1\"/><n/></p></a>");
        int outside = pages.make(0, 0);
        pages.link(outside, 1, one);
        written(pages, outside, 1,
            "<p><n/><r h=\"1\"/></p><p id=\"1\"><a n=\"3\" o=\"2\"><r h=\"1\"/></a><n/></p>");
    }

    private static void idsFollowTheFirstReferences() {
        GraphPages pages = new GraphPages();
        for (int x = 0; x < 5; x++) {
            pages.make(0, 0);
        }
        pages.link(0, 0, 3);
        pages.link(0, 1, 2);
        pages.link(2, 0, 4);
        pages.link(2, 1, 3);
        pages.link(3, 0, 1);
        pages.link(3, 1, 4);
        pages.link(1, 0, 4);
        pages.link(1, 1, 1);
        // Object 3 is 1 by the slot of 0, then 4 comes in the element of 2, then 1 in that of 3.
        written(pages, 0, 3, "<p><r h=\"1\"/><p><r h=\"2\"/><r h=\"1\"/></p></p>"
            + "<p id=\"1\"><r h=\"3\"/><r h=\"2\"/></p>"
            + "<p id=\"2\"><n/><n/></p>"
            + "<p id=\"3\"><r h=\"2\"/><r h=\"3\"/></p>");
    }

    private static void onlyWhatIsReachedCounts() {
        GraphPages pages = new GraphPages();
        int text = Checks.makeText(pages, "z");
        int one = pages.make(0, 0);
        int two = pages.make(0, 0);
        pages.link(one, 0, text);
        pages.link(two, 0, text);
        pages.link(two, 1, one);
        written(pages, one, 0, "<p><t>z</t><n/></p>");
        written(pages, text, 0, "<t>z</t>");
        written(pages, two, 1, "<p><r h=\"1\"/><p><r h=\"1\"/><n/></p></p><t id=\"1\">z</t>");
    }

    private static void idsOfTwoDigits() {
        GraphPages pages = new GraphPages();
        for (int x = 0; x < 16; x++) {
            pages.make(0, 0);
        }
        StringBuilder want = new StringBuilder("<r h=\"1\"/>");
        for (int x = 0; x < 16; x++) {
            pages.link(x, 0, (x + 1) % 16);
            pages.link(x, 1, (x + 1) % 16);
            want.append("<p id=\"").append(x + 1).append("\">");
            for (int k = 0; k < 2; k++) {
                want.append("<r h=\"").append((x + 1) % 16 + 1).append("\"/>");
            }
            want.append("</p>");
        }
        written(pages, 0, 16, want.toString());
    }

    private static void deepest() {
        GraphPages pages = new GraphPages();
        StringBuilder want = new StringBuilder("<p><n/><i>1</i></p>");
        for (int x = 0; x < 16; x++) {
            pages.make(0, 0);
            if (x > 0) {
                pages.link(x - 1, 0, x);
                want.insert(0, "<p>").append("<n/></p>");
            }
        }
        pages.put(15, 1, 1);
        written(pages, 0, 0, want.toString());
        pages.link(15, 1, 0);
        checks.due("shared", pages.shared(0), 1);
        pages.encode(0);
        pages.clear();
        checks.due("decode", pages.decode(), 0);
        checks.due("objects()", pages.objects(), 16);
        checks.due("the ring is kept", pages.value(15, 1), 0);
    }

    private static void refused() {
        GraphPages pages = Checks.withPage("abc");
        checks.due("encode(0)", pages.encode(0), -1);
        checks.due("encode(-1)", pages.encode(-1), -1);
        checks.due("page", Checks.pageOf(pages), "abc");
        Checks.makeText(pages, "");
        checks.due("encode(1)", pages.encode(1), -1);
        checks.due("page", Checks.pageOf(pages), "abc");
        written(pages, 0, 0, "<t></t>");
    }
}
