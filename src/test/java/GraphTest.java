/** Promise 14: references and ids, how many objects there may be, and the graph that a page becomes. */
public final class GraphTest {
    private static final Checks checks = new Checks();
    private static final Reading reading = new Reading(checks);

    public static void main(String[] args) {
        referencesBefore();
        referencesAfter();
        referencesAround();
        referencesToNone();
        formOfReferences();
        noTwoWithTheSameId();
        idsOfOneReadingOnly();
        atMostSixteenOfThePage();
        atMostSixteenTogether();
        deepPagesOfSixteen();
        numbering();
        rootIsTheFirst();
        rootIsReferredTo();
        objectsThatNothingRefersTo();
        oldObjectsStay();
        readingTwice();
        thePageStays();
        writtenIsRead();
        earlierPagesAreForgotten();
        readingAgainAndAgain();
        checks.end();
    }

    private static void referencesBefore() {
        checks.sentence("a reference to the object of the p, a or t with that id, which there is, be it before .. the r");
        reading.content("<p><t id=\"1\">a</t><r h=\"1\"/></p>", 0, "P[@1 @1] T(a)");
        reading.content("<p><p id=\"1\"><n/><n/></p><r h=\"1\"/></p>", 0, "P[@1 @1] P[- -]");
        reading.content("<p><a id=\"1\" n=\"2\"/><r h=\"1\"/></p>", 0, "P[@1 @1] A[- -]");
        reading.content("<t id=\"1\"/><a id=\"2\" n=\"1\"><r h=\"1\"/></a>", 0, "T() A[@0]");
    }

    private static void referencesAfter() {
        checks.sentence("be it .. after .. the r");
        reading.content("<p><r h=\"1\"></r><t id=\"1\">a</t></p>", 0, "P[@1 @1] T(a)");
        reading.content("<p><r h=\"1\"/><p id=\"1\"><n/><n/></p></p>", 0, "P[@1 @1] P[- -]");
        reading.content("<p><r h=\"1\"/><n/></p><a id=\"1\" n=\"2\"/>", 0, "P[@1 -] A[- -]");
        reading.content("<r h=\"5\"/><p id=\"5\"><r h=\"5\"/><r h=\"6\"/></p><t id=\"6\">z</t>", 0, "P[@0 @1] T(z)");
        reading.content("<a n=\"1\"><r h=\"2\"/></a><p id=\"1\"><n/><a n=\"1\"><t id=\"2\">in</t></a></p>", 0,
            "A[@3] P[- @2] A[@3] T(in)");
    }

    private static void referencesAround() {
        checks.sentence("or around the r");
        reading.content("<p id=\"3\"><r h=\"3\"/><n/></p>", 0, "P[@0 -]");
        reading.content("<a id=\"3\" n=\"1\"><r h=\"3\"/></a>", 0, "A[@0]");
        reading.content("<p id=\"3\"><p><r h=\"3\"/><n/></p><n/></p>", 0, "P[@1 -] P[@0 -]");
        reading.content("<a n=\"1\" id=\"1\"><a n=\"2\" id=\"2\"><r h=\"1\"/><r h=\"2\"/></a></a>", 0, "A[@1] A[@0 @1]");
    }

    private static void referencesToNone() {
        checks.sentence("with that id, which there is");
        reading.contentFault("<r h=\"1\"/>");
        reading.contentFault("<r h=\"2\"/><t id=\"1\"/>");
        reading.contentFault("<p><r h=\"2\"/><t id=\"1\"/></p>");
        reading.contentFault("<p><t id=\"1\"/><r h=\"2\"/></p>");
        reading.contentFault("<p><r h=\"0\"/><t/></p>");
        reading.contentFault("<p><r h=\"1\"/><t/></p>");
        reading.contentFault("<p><r h=\"10\"/><t id=\"1\"/></p>");
        reading.contentFault("<p id=\"1\"><n/><a n=\"1\"><r h=\"99\"/></a></p>");
        // The number of an object is no id.
        Pages pages = Pages.withPage(Reading.inBody("<p><r h=\"0\"/><n/></p>"));
        pages.makePair();
        checks.due("decode()", pages.decode(), GraphPages.CONTENT);
    }

    private static void formOfReferences() {
        checks.sentence("r: no text, no children, attribute h must stand");
        reading.content("<p><r h=\"1\"></r><t id=\"1\"/></p>", 0, "P[@1 @1] T()");
        reading.content("<p><r h=\"1\" /><t id=\"1\"/></p>", 0, "P[@1 @1] T()");
        for (String inside : new String[] {" ", "x", "&#32;", "1", "<n/>", "<x/>", "<t/>"}) {
            reading.contentFault("<p><r h=\"1\">" + inside + "</r><t id=\"1\"/></p>");
            reading.contentFault("<r h=\"1\">" + inside + "</r><t id=\"1\"/>");
        }
        reading.contentFault("<p><r/><t id=\"1\"/></p>");
        reading.contentFault("<r/><t id=\"1\"/>");
        reading.contentFault("<a n=\"2\"><r at=\"0\"/><t id=\"1\"/></a>");
        reading.contentFault("<p><r id=\"1\"/><t id=\"1\"/></p>");
        reading.contentFault("<p><r h=\"\"/><t id=\"1\"/></p>");
    }

    private static void noTwoWithTheSameId() {
        checks.sentence("No two of the p, a, t have the same id.");
        String[] one = {"<p id=\"7\"><n/><n/></p>", "<a id=\"7\" n=\"0\"/>", "<t id=\"7\"/>"};
        String[] other = {"<p id=\"07\"><n/><n/></p>", "<a id=\"07\" n=\"0\"/>", "<t id=\"07\"/>"};
        String[] third = {"<p id=\"70\"><n/><n/></p>", "<a id=\"70\" n=\"0\"/>", "<t id=\"70\"/>"};
        String[] shown = {"P[- -]", "A[]", "T()"};
        for (int i = 0; i < 3; i++) {
            for (int j = 0; j < 3; j++) {
                reading.contentFault(one[i] + one[j]);
                reading.contentFault(one[i] + other[j]);
                reading.contentFault("<p>" + one[i] + one[j] + "</p>");
                reading.contentFault("<p>" + one[i] + "<n/></p>" + other[j]);
                reading.content("<p>" + one[i] + third[j] + "</p>", 0, "P[@1 @2] " + shown[i] + " " + shown[j]);
            }
            reading.contentFault("<p id=\"7\">" + one[i] + "<n/></p>");
            reading.contentFault("<a id=\"7\" n=\"1\">" + one[i] + "</a>");
        }
        reading.contentFault("<t id=\"0\"/><t id=\"00\"/>");
        reading.content("<t id=\"0\"/><t id=\"1\"/><t id=\"10\"/><t id=\"11\"/><t id=\"99\"/>", 0, "T() T() T() T() T()");
    }

    private static void idsOfOneReadingOnly() {
        checks.sentence("No two of the p, a, t have the same id. / with that id, which there is");
        Pages pages = Pages.withPage(Reading.inBody("<t id=\"3\"/>"));
        checks.due("decode()", pages.decode(), 0);
        checks.due("decode() of the same ids", pages.decode(), 1);
        pages.replacePage(Reading.inBody("<r h=\"3\"/>"));
        checks.due("decode() of an id of an earlier page", pages.decode(), GraphPages.CONTENT);
        pages.replacePage(Reading.inBody("<p><t id=\"4\"/></p>"));
        checks.due("decode() of a page with a fault", pages.decode(), GraphPages.CONTENT);
        pages.replacePage(Reading.inBody("<r h=\"4\"/>"));
        checks.due("decode() of an id of a page with a fault", pages.decode(), GraphPages.CONTENT);
        checks.due("graph", pages.graph(), "T() T()");
    }

    private static String texts(int count) {
        StringBuilder row = new StringBuilder();
        for (int n = 0; n < count; n++) {
            row.append("<t id=\"").append(n).append("\"/>");
        }
        return row.toString();
    }

    private static void atMostSixteenOfThePage() {
        checks.sentence("The objects that there are already and the p, a, t of the page are at most 16 together.");
        for (int count = 1; count <= 18; count++) {
            Pages pages = Pages.withPage(Reading.inBody(texts(count)));
            checks.due("decode() of " + count, pages.decode(), count <= 16 ? 0 : GraphPages.CONTENT);
            checks.due("objects() after " + count, pages.objects(), count <= 16 ? count : 0);
            checks.due("decode() once more of " + count, pages.decode(), count <= 8 ? count : GraphPages.CONTENT);
            checks.due("objects()", pages.objects(), count <= 8 ? 2 * count : count <= 16 ? count : 0);
        }
        String four = "<a n=\"4\"><t/><t/><t/><t/></a>";
        Pages sixteen = Pages.withPage(Reading.inBody("<a n=\"4\">" + four + four + four + "</a>"));
        checks.due("decode() of sixteen", sixteen.decode(), 0);
        Pages seventeen = Pages.withPage(Reading.inBody("<a n=\"4\">" + four + four + four + "<t/></a>"));
        checks.due("decode() of seventeen", seventeen.decode(), GraphPages.CONTENT);
        checks.due("objects()", seventeen.objects(), 0);
    }

    private static void atMostSixteenTogether() {
        checks.sentence("The objects that there are already and the p, a, t of the page are at most 16 together.");
        for (int there = 0; there <= 16; there++) {
            for (int count = 1; count <= 4; count++) {
                Pages pages = Pages.withPage(Reading.inBody(texts(count)));
                pages.makePairs(there);
                boolean fits = there + count <= 16;
                checks.due("decode() of " + count + " to " + there, pages.decode(), fits ? there : GraphPages.CONTENT);
                checks.due("objects()", pages.objects(), fits ? there + count : there);
                checks.due("kind behind the last", pages.kind(fits ? there + count : there), -1);
                pages.clear();
                checks.due("decode() after clear()", pages.decode(), 0);
                checks.due("objects()", pages.objects(), count);
            }
        }
    }

    /** An r, an n and an i take no place among the sixteen, nor do elements of an h. */
    private static void deepPagesOfSixteen() {
        checks.sentence("the p, a, t of the page are at most 16");
        String inside = "<n/>";
        for (int n = 0; n < 16; n++) {
            inside = n % 2 == 0 ? "<p>" + inside + "<i>" + n + "</i></p>" : "<a n=\"1\">" + inside + "</a>";
        }
        String page = "<e v=\"1\"><h><t/><t/></h><b>" + inside + "</b></e>";
        Pages pages = Pages.withPage(page);
        checks.due("decode() of sixteen around each other", pages.decode(), 0);
        checks.due("objects()", pages.objects(), 16);
        checks.due("the inmost", pages.show(15), "P[- 0]");
        checks.due("the one around it", pages.show(14), "A[@15]");
        Pages more = Pages.withPage(page.replace("<n/>", "<t/>"));
        checks.due("decode() of seventeen around each other", more.decode(), GraphPages.CONTENT);
        checks.due("objects()", more.objects(), 0);
    }

    private static void numbering() {
        checks.sentence("they are numbered on in the order in which their starts stand in the page");
        reading.content("<p><p><t>a</t><t>b</t></p><p><t>c</t><t>d</t></p></p>", 0,
            "P[@1 @4] P[@2 @3] T(a) T(b) P[@5 @6] T(c) T(d)");
        reading.content("<a n=\"3\"><t at=\"2\">a</t><t at=\"0\">b</t><t>c</t></a>", 0, "A[@2 @3 @1] T(a) T(b) T(c)");
        Pages pages = Pages.withPage(Reading.inBody("<r h=\"8\"/><p id=\"9\"><a n=\"1\"><t>in</t></a>"
            + "<p id=\"8\"><r h=\"9\"/><r h=\"7\"/></p></p><t id=\"7\">out</t>"));
        pages.makePair();
        pages.makeText("own");
        checks.due("decode()", pages.decode(), 5);
        checks.due("graph", pages.graph(), "P[- -] T(own) P[@3 @5] A[@4] T(in) P[@2 @6] T(out)");
        checks.due("make goes on", pages.make(0, 0), 7);
    }

    private static void rootIsTheFirst() {
        checks.sentence("The ROOT is the object of the first child of b");
        for (int there = 0; there <= 13; there++) {
            Pages pages = Pages.withPage(Reading.inBody("<p><t>x</t><n/></p><t id=\"1\">y</t>"));
            pages.makePairs(there);
            checks.due("decode() to " + there, pages.decode(), there);
            checks.due("the root", pages.show(there), "P[@" + (there + 1) + " -]");
            checks.due("the last", pages.show(there + 2), "T(y)");
        }
    }

    private static void rootIsReferredTo() {
        checks.sentence("or the object that it refers to when it is an r");
        reading.content("<r h=\"2\"/><t id=\"1\">a</t><t id=\"2\">b</t><t id=\"3\">c</t>", 1, "T(a) T(b) T(c)");
        reading.content("<r h=\"2\"/><p id=\"1\"><a n=\"0\" id=\"2\"/><n/></p>", 1, "P[@1 -] A[]");
        reading.content("<r h=\"3\"/><p id=\"1\"><a n=\"1\" id=\"2\"><t id=\"3\"/></a><n/></p>", 2, "P[@1 -] A[@2] T()");
        Pages pages = Pages.withPage(Reading.inBody("<r h=\"2\"/><t id=\"1\">a</t><t id=\"2\">b</t>"));
        pages.makePairs(14);
        checks.due("decode() to fourteen", pages.decode(), 15);
    }

    private static void objectsThatNothingRefersTo() {
        checks.sentence("each p, a, t becomes a new object");
        reading.content("<t>a</t><p id=\"1\"><n/><n/></p><a id=\"2\" n=\"1\"/>", 0, "T(a) P[- -] A[-]");
    }

    private static void oldObjectsStay() {
        checks.sentence("each p, a, t becomes a new object");
        Pages pages = Pages.withPage(Reading.inBody("<p id=\"1\"><r h=\"1\"/><i>3</i></p>"));
        pages.makeArray(2);
        pages.makeText("old");
        pages.link(0, 0, 1);
        pages.put(0, 1, 4);
        checks.due("decode()", pages.decode(), 2);
        checks.due("graph", pages.graph(), "A[@1 4] T(old) P[@2 3]");
        checks.due("link to a new one", pages.link(0, 1, 2), true);
        checks.due("put into a new one", pages.put(2, 0, 6), true);
        checks.due("graph", pages.graph(), "A[@1 @2] T(old) P[6 3]");
        pages.replacePage(Reading.inBody("<t>abcde</t>"));
        checks.due("decode()", pages.decode(), 3);
        checks.due("type of a sixth character", pages.type(3, 'f'), true);
        checks.due("type of a seventh character", pages.type(3, 'g'), false);
        checks.due("the TEXT", pages.show(3), "T(abcdef)");
    }

    private static void readingTwice() {
        checks.sentence("each p, a, t becomes a new object");
        Pages pages = Pages.withPage(Reading.inBody("<p id=\"1\"><r h=\"1\"/><i>4</i></p>"));
        checks.due("decode()", pages.decode(), 0);
        pages.put(0, 1, 5);
        checks.due("decode()", pages.decode(), 1);
        checks.due("graph", pages.graph(), "P[@0 5] P[@1 4]");
        checks.due("alike(0, 1)", pages.alike(0, 1), false);
        pages.put(0, 1, 4);
        checks.due("alike(0, 1)", pages.alike(0, 1), true);
    }

    private static void thePageStays() {
        checks.sentence("Reads the page; it stays as it is.");
        String page = "<e   v=\"1\" ><h x=\"y\">z</h><b ><p><i>007</i><t>&#65;&quot;</t></p></b></e>";
        Pages pages = Pages.withPage(page);
        checks.due("decode()", pages.decode(), 0);
        checks.due("page", pages.page(), page);
        pages.encode(0);
        checks.due("page", pages.page(), Reading.inBody("<p><i>7</i><t>A\"</t></p>"));
    }

    private static void writtenIsRead() {
        checks.sentence("with sharing and rings kept");
        Pages pages = new Pages();
        pages.makeArray(4);
        pages.makePair();
        pages.makeText("<&>\"' ");
        pages.link(0, 1, 1);
        pages.link(0, 2, 2);
        pages.link(0, 3, 0);
        pages.link(1, 0, 2);
        pages.link(1, 1, 0);
        for (int x = 0; x < 3; x++) {
            pages.encode(x);
            int root = pages.decode();
            checks.due("alike to what was written", pages.alike(x, root), true);
            checks.due("shared", pages.shared(root), pages.shared(x));
        }
        checks.due("objects()", pages.objects(), 10);
    }

    /** Pages of which each leaves something to stumble over: open elements, headers, ids, taken slots. */
    private static final String[] PAGES = {
        "<e v=\"1\"><b><t/></b></e>",
        "<e v=\"1\"           ><b><t>1</t></b></e>",
        "<e v=\"1\"><b><t/></b><h m=\"1\"/></e>",
        "<a>".repeat(20),
        "<a>".repeat(20) + "</a>".repeat(20),
        "<e v=\"1\"><h><x a=\"1\" b=\"2\" c=\"3\" d=\"4\" e=\"5\" f=\"6\"/></h><b><p><n/><n/></p></b></e>",
        "<e v=\"1\"><b><a n=\"4\"><i>1</i><i>2</i><i>3</i><i>4</i></a></b></e>",
        "<e v=\"1\"><b><a n=\"4\" o=\"2\"><i>-1</i><n/></a></b></e>",
        "<e v=\"1\"><b><a n=\"1\"><i>1</i><i>2</i></a></b></e>",
        "<e v=\"1\"><b><r h=\"1\"/><a id=\"1\" n=\"2\"><i at=\"1\">5</i><r at=\"0\" h=\"2\"/></a><t id=\"2\">ab</t></b></e>",
        "<e v=\"1\"><b><p><r h=\"2\"/><t id=\"1\"/></p></b></e>",
        "<e v=\"1\"><b><p><t>abcdef</t><i>-</i></p></b></e>",
        "<e v=\"1\"><b><p><i></i><n/></p></b></e>",
        "<e v=\"2\"><b><t/></b></e>"};
    private static final int[] ROOTS = {0, 0, GraphPages.MUST, GraphPages.FORM, GraphPages.VERSION, 0, 0, 0,
        GraphPages.CONTENT, 0, GraphPages.CONTENT, GraphPages.CONTENT, GraphPages.CONTENT, GraphPages.VERSION};
    private static final String[] GRAPHS = {"T()", "T(1)", "", "", "", "P[- -]", "A[1 2 3 4]", "A[- - -1 -]",
        "", "A[@1 5] T(ab)", "", "", "", ""};

    private static void earlierPagesAreForgotten() {
        checks.sentence("READING a page gives the first FAULT of this list that holds, else a graph");
        for (String earlier : PAGES) {
            for (int i = 0; i < PAGES.length; i++) {
                Pages pages = Pages.withPage(earlier);
                pages.decode();
                pages.clear();
                pages.replacePage(PAGES[i]);
                checks.due(PAGES[i] + " after " + earlier, pages.decode(), ROOTS[i]);
                checks.due("graph", pages.graph(), GRAPHS[i]);
            }
        }
    }

    /** To the last call that is promised: what a reading needs inside must not run out. */
    private static void readingAgainAndAgain() {
        checks.sentence("An object is used for at most 512 calls after it has been made");
        for (int i = 0; i < PAGES.length; i++) {
            Pages pages = Pages.withPage(PAGES[i]);
            while (pages.callsLeft() > 1) {
                pages.clear();
                checks.due("decode() again of " + PAGES[i], pages.decode(), ROOTS[i]);
            }
        }
    }
}
