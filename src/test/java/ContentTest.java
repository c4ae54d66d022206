/** Promise 14, the fault CONTENT, and the graph that a page without fault gives. */
public final class ContentTest {
    private static final Checks checks = new Checks();

    public static void main(String[] args) {
        outermost();
        body();
        pairs();
        arrays();
        slotsOfArrays();
        texts();
        numbers();
        references();
        ids();
        countsOnly();
        attributesStandOnlyWhereTheyMay();
        atMostSixteen();
        numberingAndRoot();
        readingTwice();
        checks.end();
    }

    private static void readPage(String page, int want) {
        GraphPages pages = Checks.withPage(page);
        checks.due(page, pages.decode(), want);
        checks.due("there are objects after " + page, pages.objects() > 0, want >= 0);
    }

    private static void bad(String inBody) {
        readPage("<e v=\"1\"><b>" + inBody + "</b></e>", GraphPages.CONTENT);
    }

    private static void good(String inBody, int wantRoot, String wantGraph) {
        GraphPages pages = Checks.withPage("<e v=\"1\"><b>" + inBody + "</b></e>");
        String page = Checks.pageOf(pages);
        checks.due(inBody, pages.decode(), wantRoot);
        checks.due("graph of " + inBody, Checks.graph(pages), wantGraph);
        checks.due("the page stays", Checks.pageOf(pages), page);
    }

    private static void outermost() {
        readPage("<e v=\"1\"><b><t/></b></e>", 0);
        readPage("<e v=\"1\" w=\"1\"><b><t/></b></e>", GraphPages.CONTENT);
        readPage("<e id=\"1\" v=\"1\"><b><t/></b></e>", GraphPages.CONTENT);
        readPage("<e v=\"1\"> <b><t/></b></e>", GraphPages.CONTENT);
        readPage("<e v=\"1\"><b><t/></b>x</e>", GraphPages.CONTENT);
        readPage("<e v=\"1\"><b><t/></b>&#32;</e>", GraphPages.CONTENT);
        readPage("<e v=\"1\"></e>", GraphPages.CONTENT);
        readPage("<e v=\"1\"><h/></e>", GraphPages.CONTENT);
        readPage("<e v=\"1\"><b><t/></b><b><t/></b></e>", GraphPages.CONTENT);
        readPage("<e v=\"1\"><b><t/></b><h/></e>", GraphPages.CONTENT);
        readPage("<e v=\"1\"><h/><b><t/></b><h/></e>", GraphPages.CONTENT);
        readPage("<e v=\"1\"><h/><h/><h/><b><t/></b></e>", 0);
        readPage("<e v=\"1\"><t/></e>", GraphPages.CONTENT);
        readPage("<e v=\"1\"><x/><b><t/></b></e>", GraphPages.CONTENT);
        readPage("<e v=\"1\"><b><t/></b><x/></e>", GraphPages.CONTENT);
        readPage("<e v=\"1\"><bb><t/></bb></e>", GraphPages.CONTENT);
    }

    private static void body() {
        readPage("<e v=\"1\"><b/></e>", GraphPages.CONTENT);
        bad("");
        bad("x<t/>");
        bad("<t/> ");
        readPage("<e v=\"1\"><b id=\"1\"><t/></b></e>", GraphPages.CONTENT);
        readPage("<e v=\"1\"><b x=\"\"><t/></b></e>", GraphPages.CONTENT);
        good("<t/>", 0, "T()");
        good("<t id=\"1\"/>", 0, "T()");
        good("<p><n/><n/></p>", 0, "P[- -]");
        good("<a n=\"0\"/>", 0, "A[]");
        bad("<n/>");
        bad("<i>1</i>");
        bad("<b/>");
        bad("<e/>");
        bad("<h/>");
        bad("<x/>");
        bad("<pp><n/><n/></pp>");
        good("<t/><t id=\"1\"/><a id=\"2\" n=\"1\"/><p id=\"3\"><n/><n/></p>", 0, "T() T() A[-] P[- -]");
        bad("<t/><t/>");
        bad("<t/><a n=\"0\"/>");
        bad("<t/><p><n/><n/></p>");
        bad("<t id=\"1\"/><t/>");
        bad("<t/><t id=\"1\"/><t/>");
        bad("<t id=\"1\"/><r h=\"1\"/>");
        bad("<r h=\"1\"/><r h=\"1\"/><t id=\"1\"/>");
        bad("<t/><n/>");
        bad("<t/><n id=\"1\"/>");
        bad("<t/><i>1</i>");
        bad("<r h=\"1\"/>");
        good("<r h=\"1\"/><t id=\"1\">q</t>", 0, "T(q)");
        bad("<t at=\"0\"/>");
    }

    private static void pairs() {
        good("<p><i>1</i><i>-2</i></p>", 0, "P[1 -2]");
        good("<p id=\"4\"><r h=\"4\"/><n></n></p>", 0, "P[@0 -]");
        good("<p><t>a</t><a n=\"1\"/></p>", 0, "P[@1 @2] T(a) A[-]");
        bad("<p/>");
        bad("<p></p>");
        bad("<p><n/></p>");
        bad("<p><n/><n/><n/></p>");
        bad("<p> <n/><n/></p>");
        bad("<p><n/>&gt;<n/></p>");
        bad("<p><n/><b/></p>");
        bad("<p><n/><x/></p>");
        bad("<p><h/><n/></p>");
        bad("<p n=\"2\"><n/><n/></p>");
        bad("<p o=\"0\"><n/><n/></p>");
        bad("<p h=\"1\" id=\"1\"><n/><n/></p>");
        bad("<p x=\"1\"><n/><n/></p>");
        bad("<p><n at=\"0\"/><n at=\"1\"/></p>");
        bad("<p><n/><p/></p>");
    }

    private static void arrays() {
        good("<a n=\"0\"></a>", 0, "A[]");
        good("<a n=\"4\"/>", 0, "A[- - - -]");
        good("<a n=\"04\"/>", 0, "A[- - - -]");
        good("<a o=\"1\" id=\"7\" n=\"3\"/>", 0, "A[- - -]");
        good("<a n=\"3\" o=\"3\"/>", 0, "A[- - -]");
        good("<a n=\"0\" o=\"0\"/>", 0, "A[]");
        good("<a n=\"4\" o=\"04\"/>", 0, "A[- - - -]");
        bad("<a/>");
        bad("<a o=\"0\"/>");
        bad("<a id=\"1\"/>");
        bad("<a n=\"5\"/>");
        bad("<a n=\"10\"/>");
        bad("<a n=\"99\"/>");
        bad("<a n=\"\"/>");
        bad("<a n=\"004\"/>");
        bad("<a n=\"-1\"/>");
        bad("<a n=\"x\"/>");
        bad("<a n=\"3\" o=\"4\"/>");
        bad("<a n=\"0\" o=\"1\"/>");
        bad("<a n=\"3\" o=\"\"/>");
        bad("<a n=\"3\" h=\"1\"/>");
        bad("<a n=\"3\" at=\"1\"/>");
        bad("<a n=\"3\" x=\"1\"/>");
        bad("<a n=\"3\"> </a>");
        bad("<a n=\"3\"><n/>x</a>");
        bad("<a n=\"3\"><b/></a>");
        bad("<a n=\"3\"><h/></a>");
        bad("<a n=\"3\"><x at=\"1\"/></a>");
    }

    private static void slotsOfArrays() {
        good("<a n=\"3\"><i>1</i><n/><i>3</i></a>", 0, "A[1 - 3]");
        good("<a n=\"4\"><i>1</i></a>", 0, "A[1 - - -]");
        good("<a n=\"4\" o=\"2\"><i>1</i><i>2</i></a>", 0, "A[- - 1 2]");
        good("<a n=\"4\" o=\"2\"><i at=\"0\">1</i><i>2</i></a>", 0, "A[1 2 - -]");
        good("<a n=\"4\" o=\"4\"><i at=\"3\">1</i></a>", 0, "A[- - - 1]");
        good("<a n=\"4\"><i at=\"3\">1</i><i at=\"0\">2</i><i>3</i></a>", 0, "A[2 3 - 1]");
        good("<a n=\"4\"><i>1</i><i at=\"02\">2</i><i>3</i></a>", 0, "A[1 - 2 3]");
        good("<a n=\"4\"><t at=\"1\">x</t><r at=\"0\" h=\"1\"/><p at=\"3\" id=\"1\"><n/><n/></p>"
            + "<a at=\"2\" n=\"1\" o=\"1\"/></a>", 0, "A[@2 @1 @3 @2] T(x) P[- -] A[-]");
        good("<a n=\"2\"><n at=\"1\"/></a>", 0, "A[- -]");
        bad("<a n=\"0\"><n/></a>");
        bad("<a n=\"1\"><n/><n/></a>");
        bad("<a n=\"4\" o=\"4\"><n/></a>");
        bad("<a n=\"4\" o=\"3\"><n/><n/></a>");
        bad("<a n=\"3\"><n at=\"3\"/></a>");
        bad("<a n=\"3\"><n at=\"32\"/></a>");
        bad("<a n=\"3\"><n at=\"99\"/></a>");
        bad("<a n=\"3\"><i at=\"2\">1</i><i>2</i></a>");
        bad("<a n=\"3\"><n/><n at=\"0\"/></a>");
        bad("<a n=\"3\"><i at=\"1\">1</i><i at=\"0\">1</i><i>1</i></a>");
        bad("<a n=\"3\"><n at=\"1\"/><i at=\"1\">1</i></a>");
        bad("<a n=\"3\"><n at=\"\"/></a>");
        bad("<a n=\"3\"><n at=\"001\"/></a>");
        // An inner array keeps its own slots apart from those of the array around it.
        good("<a n=\"4\"><i>1</i><a n=\"4\" o=\"2\"><i>5</i></a><i>3</i></a>", 0, "A[1 @1 3 -] A[- - 5 -]");
        // The at of an inner array says its slot, not the slots inside of it.
        bad("<a n=\"1\"><a n=\"1\"><p at=\"0\"><n at=\"0\"/><n/></p></a></a>");
    }

    private static void texts() {
        good("<t>abcdef</t>", 0, "T(abcdef)");
        good("<t>&lt;&gt;&amp;&quot;&#65;&#032;</t>", 0, "T(<>&\"A )");
        good("<t>\"> </t>", 0, "T(\"> )");
        good("<t>&#60;b/>&#38;</t>", 0, "T(<b/>&)");
        good("<t id=\"99\"></t>", 0, "T()");
        bad("<t>abcdefg</t>");
        bad("<t>abcdef&lt;</t>");
        bad("<t>       </t>");
        bad("<t>a<n/></t>");
        bad("<t><t/></t>");
        bad("<t><x/></t>");
        bad("<t n=\"1\">a</t>");
        bad("<t h=\"1\" id=\"1\">a</t>");
        good("<p><t>ab</t><t>cd</t></p>", 0, "P[@1 @2] T(ab) T(cd)");
    }

    private static void number(String text, int want) {
        good("<p><i>" + text + "</i><n/></p>", 0, "P[" + want + " -]");
    }

    private static void noNumber(String text) {
        bad("<p><i>" + text + "</i><n/></p>");
    }

    private static void numbers() {
        number("0", 0);
        number("-0", 0);
        number("000", 0);
        number("-0000000000", 0);
        number("0000000012", 12);
        number("-0000000012", -12);
        number("2147483647", 2147483647);
        number("-2147483648", -2147483648);
        number("-2147483647", -2147483647);
        number("&#45;1&#050;", -12);
        noNumber("2147483648");
        noNumber("-2147483649");
        noNumber("4294967296");
        noNumber("9999999999");
        noNumber("-9999999999");
        noNumber("00000000001");
        noNumber("-00000000001");
        noNumber("18446744073709551617");
        noNumber("");
        noNumber("-");
        noNumber("--1");
        noNumber("+1");
        noNumber(" 1");
        noNumber("1 ");
        noNumber("1-");
        noNumber("1.0");
        noNumber("a");
        noNumber("1:");
        noNumber("/1");
        noNumber("1<n/>");
        noNumber("<n/>1");
        bad("<p><i/><n/></p>");
        bad("<p><i id=\"1\">1</i><n/></p>");
        bad("<p><i n=\"1\">1</i><n/></p>");
        bad("<p><i h=\"1\">1</i><n/></p>");
        bad("<p><n>1</n><n/></p>");
        bad("<p><n> </n><n/></p>");
        bad("<p><n><n/></n><n/></p>");
        bad("<p><n id=\"1\"/><n/></p>");
        bad("<p><n n=\"1\"/><n/></p>");
    }

    private static void references() {
        good("<r h=\"5\"/><p id=\"5\"><r h=\"5\"/><r h=\"6\"/></p><t id=\"6\">z</t>", 0, "P[@0 @1] T(z)");
        good("<p><r h=\"1\"></r><t id=\"1\">a</t></p>", 0, "P[@1 @1] T(a)");
        good("<p><t id=\"1\">a</t><r h=\"1\"/></p>", 0, "P[@1 @1] T(a)");
        good("<p id=\"3\"><p><r h=\"3\"/><n/></p><n/></p>", 0, "P[@1 -] P[@0 -]");
        good("<r h=\"2\"/><p id=\"1\"><a n=\"0\" id=\"2\"/><n/></p>", 1, "P[@1 -] A[]");
        good("<p><r h=\"00\"/><t id=\"0\"/></p>", 0, "P[@1 @1] T()");
        good("<p><r h=\"9\"/><t id=\"09\"/></p>", 0, "P[@1 @1] T()");
        good("<p><r h=\"99\"/><t id=\"99\"/></p>", 0, "P[@1 @1] T()");
        bad("<p><r h=\"2\"/><t id=\"1\"/></p>");
        bad("<p><r h=\"0\"/><t/></p>");
        bad("<p><r/><t id=\"1\"/></p>");
        bad("<p><r h=\"\"/><t id=\"1\"/></p>");
        bad("<p><r h=\"001\"/><t id=\"1\"/></p>");
        bad("<p><r h=\"x\"/><t id=\"1\"/></p>");
        bad("<p><r h=\"1\">x</r><t id=\"1\"/></p>");
        bad("<p><r h=\"1\"><n/></r><t id=\"1\"/></p>");
        bad("<p><r h=\"1\" id=\"2\"/><t id=\"1\"/></p>");
        bad("<p><r h=\"1\" n=\"2\"/><t id=\"1\"/></p>");
        bad("<r/><t id=\"1\"/>");
        bad("<r h=\"2\"/><t id=\"1\"/>");
        bad("<n/><t id=\"1\"/>");
        bad("<i>1</i><t id=\"1\"/>");
    }

    private static void ids() {
        bad("<t id=\"1\"/><t id=\"1\"/>");
        bad("<t id=\"1\"/><t id=\"01\"/>");
        bad("<p id=\"7\"><t id=\"7\"/><n/></p>");
        bad("<p><t id=\"7\"/><a n=\"1\" id=\"7\"/></p>");
        good("<t id=\"1\"/><t id=\"10\"/><t id=\"11\"/>", 0, "T() T() T()");
        bad("<t id=\"\"/>");
        bad("<t id=\"a\"/>");
        bad("<t id=\"100\"/>");
        bad("<t id=\"-1\"/>");
        bad("<t id=\" 1\"/>");
        bad("<t/><t id=\"\"/>");
        GraphPages pages = Checks.withPage("<e v=\"1\"><b><t id=\"3\"/></b></e>");
        checks.due("decode", pages.decode(), 0);
        checks.due("the ids of an earlier reading are free", pages.decode(), 1);
        Checks.replacePage(pages, "<e v=\"1\"><b><r h=\"3\"/></b></e>");
        checks.due("and not known", pages.decode(), GraphPages.CONTENT);
    }

    private static void countsOnly() {
        String[] wrong = {"", " ", "1 ", " 1", "a", "1a", "a1", "-1", "+1", "001", "100", "1.", "/", ":", "0:", "0/"};
        for (String w : wrong) {
            bad("<t id=\"" + w + "\"/>");
            bad("<a n=\"" + w + "\"/>");
            bad("<a n=\"2\" o=\"" + w + "\"/>");
            bad("<a n=\"2\"><n at=\"" + w + "\"/></a>");
            bad("<p><t id=\"1\"/><r h=\"" + w + "\"/></p>");
        }
    }

    private static void attributesStandOnlyWhereTheyMay() {
        String[] names = {"id", "n", "o", "at", "h", "v", "m", "k", "x", "ida", "nn"};
        String[] elements = {"p", "a", "t", "n", "i", "r"};
        String[] own = {"id", "id n o", "id", "", "", "h"};
        for (int i = 0; i < elements.length; i++) {
            for (String name : names) {
                boolean may = (" " + own[i] + " ").contains(" " + name + " ");
                String element = elementWith(elements[i], name);
                int rootOrFault = may ? 0 : GraphPages.CONTENT;
                readPage("<e v=\"1\"><b><p>" + element + "<t id=\"2\"/></p></b></e>", rootOrFault);
                int inArray = may || name.equals("at") ? 0 : GraphPages.CONTENT;
                readPage("<e v=\"1\"><b><a n=\"4\">" + element + "<t id=\"2\"/></a></b></e>", inArray);
            }
        }
    }

    private static String elementWith(String element, String attribute) {
        String given = " " + attribute + "=\"" + (attribute.equals("h") ? 2 : 1) + "\"";
        String needed = element.equals("a") && !attribute.equals("n") ? " n=\"3\""
            : element.equals("r") && !attribute.equals("h") ? " h=\"2\"" : "";
        String inside = element.equals("p") ? "<n/><n/>" : element.equals("i") ? "5" : "";
        return "<" + element + given + needed + ">" + inside + "</" + element + ">";
    }

    private static String texts(int from, int count) {
        StringBuilder row = new StringBuilder();
        for (int n = from; n < from + count; n++) {
            row.append("<t id=\"").append(n).append("\"/>");
        }
        return row.toString();
    }

    private static void atMostSixteen() {
        readPage("<e v=\"1\"><b>" + texts(1, 16) + "</b></e>", 0);
        readPage("<e v=\"1\"><b>" + texts(1, 17) + "</b></e>", GraphPages.CONTENT);
        for (int there = 0; there <= 16; there++) {
            GraphPages pages = Checks.withPage("<e v=\"1\"><b>" + texts(0, 3) + "</b></e>");
            for (int x = 0; x < there; x++) {
                pages.make(0, 0);
            }
            boolean fits = there + 3 <= 16;
            checks.due("decode with " + there, pages.decode(), fits ? there : GraphPages.CONTENT);
            checks.due("objects()", pages.objects(), fits ? there + 3 : there);
        }
        GraphPages pages = Checks.withPage("<e v=\"1\"><b><a n=\"4\"><t/><t/><p><t/><t/></p></a></b></e>");
        checks.due("six", pages.decode(), 0);
        checks.due("twelve", pages.decode(), 6);
        checks.due("eighteen", pages.decode(), GraphPages.CONTENT);
        checks.due("objects()", pages.objects(), 12);
        pages.clear();
        checks.due("again", pages.decode(), 0);
    }

    private static void numberingAndRoot() {
        GraphPages pages = Checks.withPage("<e v=\"1\"><b><r h=\"8\"/>"
            + "<p id=\"9\"><a n=\"1\"><t>in</t></a><p id=\"8\"><r h=\"9\"/><r h=\"7\"/></p></p><t id=\"7\">out</t></b></e>");
        pages.make(0, 0);
        Checks.makeText(pages, "own");
        checks.due("decode", pages.decode(), 5);
        checks.due("graph", Checks.graph(pages), "P[- -] T(own) P[@3 @5] A[@4] T(in) P[@2 @6] T(out)");
        checks.due("make goes on", pages.make(0, 0), 7);
    }

    private static void readingTwice() {
        GraphPages pages = Checks.withPage("<e v=\"1\"><b><p id=\"1\"><r h=\"1\"/><i>4</i></p></b></e>");
        checks.due("decode", pages.decode(), 0);
        pages.put(0, 1, 5);
        checks.due("decode", pages.decode(), 1);
        checks.due("graph", Checks.graph(pages), "P[@0 5] P[@1 4]");
        checks.due("alike", pages.alike(0, 1), false);
        pages.put(0, 1, 4);
        checks.due("alike", pages.alike(0, 1), true);
        pages.encode(1);
        checks.due("page", Checks.pageOf(pages), "<e v=\"1\"><b><r h=\"1\"/><p id=\"1\"><r h=\"1\"/><i>4</i></p></b></e>");
    }
}
