/** Promise 14, the faults VERSION and MUST, and which of several faults is told. */
public final class FaultsTest {
    private static final String BODY = "<b><t/></b>";
    private static final Checks checks = new Checks();
    private static final Reading reading = new Reading(checks);

    public static void main(String[] args) {
        nameOfTheOutermost();
        versionIsTheOneCharacter();
        versionAmongOthers();
        mustIsTheOneCharacter();
        mustOfChildrenOnly();
        mustOfHeadersOnly();
        mustAnywhereAmongTheChildren();
        keyIsACount();
        keyIsUnderstood();
        keysOutsideOfTheBounds();
        keyAndMustInAnyOrder();
        headersAreNotLookedAt();
        theFirstFaultIsTold();
        understandingDecides();
        checks.end();
    }

    private static void nameOfTheOutermost() {
        checks.sentence("VERSION: the outermost element is not named e");
        reading.graph("<e v=\"1\">" + BODY + "</e>", 0, "T()");
        for (String name : new String[] {"f", "d", "ee", "a", "b", "t", "x", "ea", "abcdef"}) {
            reading.fault("<" + name + " v=\"1\">" + BODY + "</" + name + ">", GraphPages.VERSION);
        }
        reading.fault("<x><e v=\"1\">" + BODY + "</e></x>", GraphPages.VERSION);
        reading.fault("<t/>", GraphPages.VERSION);
    }

    private static void versionIsTheOneCharacter() {
        checks.sentence("or has no attribute v whose value is the one character 1");
        reading.fault("<e>" + BODY + "</e>", GraphPages.VERSION);
        reading.fault("<e/>", GraphPages.VERSION);
        reading.fault("<e><e v=\"1\"/></e>", GraphPages.VERSION);
        for (String value : new String[] {"", "0", "2", "01", "11", "10", "1 ", " 1", " ", "a", "+1", "1.", "l"}) {
            reading.fault("<e v=\"" + value + "\">" + BODY + "</e>", GraphPages.VERSION);
        }
        for (String name : new String[] {"w", "u", "vv", "va", "av", "k", "id"}) {
            reading.fault("<e " + name + "=\"1\">" + BODY + "</e>", GraphPages.VERSION);
        }
        reading.graph("<e  v=\"1\"  >" + BODY + "</e>", 0, "T()");
        reading.fault("<e v=\"1\"/>", GraphPages.CONTENT);
    }

    private static void versionAmongOthers() {
        checks.sentence("has no attribute v whose value is the one character 1");
        reading.fault("<e w=\"2\" v=\"1\">" + BODY + "</e>", GraphPages.CONTENT);
        reading.fault("<e v=\"1\" w=\"2\">" + BODY + "</e>", GraphPages.CONTENT);
        reading.fault("<e w=\"1\" v=\"2\">" + BODY + "</e>", GraphPages.VERSION);
        reading.fault("<e a=\"1\" b=\"1\" c=\"1\" d=\"1\" f=\"1\" v=\"1\">" + BODY + "</e>", GraphPages.CONTENT);
        reading.fault("<e a=\"1\" b=\"1\" c=\"1\" d=\"1\" f=\"1\" v=\"0\">" + BODY + "</e>", GraphPages.VERSION);
    }

    private static String withHeader(String header) {
        return "<e v=\"1\">" + header + BODY + "</e>";
    }

    private static void must(String headers, int... keys) {
        reading.fault(withHeader(headers), GraphPages.MUST, keys);
    }

    private static void mayStand(String headers, int... keys) {
        reading.graph(withHeader(headers), 0, "T()", keys);
    }

    private static void mustIsTheOneCharacter() {
        checks.sentence("MUST: some child .. has an attribute m whose value is the one character 1");
        must("<h m=\"1\"/>");
        must("<h m=\"1\"></h>");
        must("<h m=\"1\">x<y/></h>");
        mayStand("<h/>");
        mayStand("<h></h>");
        for (String value : new String[] {"", "0", "2", "01", "11", "10", "1 ", " 1", "a", "+1"}) {
            mayStand("<h m=\"" + value + "\"/>");
            mayStand("<h k=\"5\" m=\"" + value + "\"/>");
        }
        mayStand("<h mm=\"1\"/>");
        mayStand("<h n=\"1\"/>");
        mayStand("<h k=\"1\"/>");
    }

    private static void mustOfChildrenOnly() {
        checks.sentence("MUST: some child of the outermost element");
        mayStand("<h><h m=\"1\"/></h>");
        mayStand("<h><x><h m=\"1\" k=\"77\"/></x></h>");
        reading.fault("<e v=\"1\"><b><h m=\"1\"/></b></e>", GraphPages.CONTENT);
        reading.fault("<e v=\"1\"><x><h m=\"1\"/></x>" + BODY + "</e>", GraphPages.CONTENT);
        reading.fault("<e v=\"1\" m=\"1\">" + BODY + "</e>", GraphPages.CONTENT);
    }

    private static void mustOfHeadersOnly() {
        checks.sentence("is named h");
        for (String name : new String[] {"x", "g", "i", "hh", "ha", "e"}) {
            reading.fault(withHeader("<" + name + " m=\"1\"/>"), GraphPages.CONTENT);
        }
        reading.fault("<e v=\"1\"><b m=\"1\"><t/></b></e>", GraphPages.CONTENT);
    }

    private static void mustAnywhereAmongTheChildren() {
        checks.sentence("some child of the outermost element");
        must("<h m=\"1\"/><h/><h/>");
        must("<h/><h m=\"1\"/><h/>");
        must("<h/><h/><h m=\"1\"/>");
        must("<h m=\"1\" k=\"3\"/><h m=\"1\" k=\"4\"/>", 3);
        must("<h m=\"1\" k=\"4\"/><h m=\"1\" k=\"3\"/>", 3);
        mayStand("<h m=\"1\" k=\"4\"/><h m=\"1\" k=\"3\"/>", 3, 4);
        reading.fault("<e v=\"1\">" + BODY + "<h m=\"1\"/></e>", GraphPages.MUST);
        reading.fault("<e v=\"1\">" + BODY + BODY + "<h m=\"1\"/>" + BODY + "</e>", GraphPages.MUST);
        reading.fault("<e v=\"1\"><x/><h m=\"1\"/></e>", GraphPages.MUST);
    }

    private static void keyIsACount() {
        checks.sentence("has no attribute k whose value is a COUNT");
        must("<h m=\"1\" kk=\"5\"/>", 5);
        must("<h m=\"1\" j=\"5\"/>", 5);
        for (String key : new String[] {"0", "00"}) {
            mayStand("<h m=\"1\" k=\"" + key + "\"/>", 0);
        }
        for (String key : new String[] {"5", "05"}) {
            mayStand("<h m=\"1\" k=\"" + key + "\"/>", 5);
        }
        for (String key : new String[] {"", "000", "005", "5 ", " 5", "-5", "+5", "a", "5a", "a5", "5.", "/", ":",
            "0/", "0:", "/5",
            ":5", "-0", "0005", "50", "15"}) {
            must("<h m=\"1\" k=\"" + key + "\"/>", 0, 5);
        }
    }

    private static void keyIsUnderstood() {
        checks.sentence("a COUNT that is an understood key");
        for (int key = 0; key < 32; key++) {
            String header = "<h m=\"1\" k=\"" + key + "\"/>";
            Pages pages = Pages.withPage(withHeader(header));
            checks.due(header + " and no key", pages.decode(), GraphPages.MUST);
            for (int other = 0; other < 32; other++) {
                pages.understand(other, other != key);
            }
            checks.due(header + " and all other keys", pages.decode(), GraphPages.MUST);
            pages.understand(key, true);
            checks.due(header + " and its key", pages.decode(), 0);
            pages.understand(key, false);
            checks.due(header + " and its key no more", pages.decode(), GraphPages.MUST);
        }
    }

    private static void keysOutsideOfTheBounds() {
        checks.sentence("KEYS are 0 .. 31");
        for (int key = 30; key <= 99; key++) {
            Pages pages = Pages.withPage(withHeader("<h m=\"1\" k=\"" + key + "\"/>"));
            for (int other = 0; other < 32; other++) {
                pages.understand(other, true);
            }
            pages.understand(key, true);
            checks.due("k=\"" + key + "\" and all keys", pages.decode(), key <= 31 ? 0 : GraphPages.MUST);
        }
    }

    private static void keyAndMustInAnyOrder() {
        checks.sentence("has an attribute m whose value is the one character 1, and has no attribute k");
        must("<h k=\"5\" m=\"1\"/>");
        mayStand("<h k=\"5\" m=\"1\"/>", 5);
        mayStand("<h a=\"\" m=\"1\" b=\"\" k=\"5\" c=\"\"/>", 5);
        must("<h a=\"\" m=\"1\" b=\"5\" k=\"6\" c=\"\"/>", 5);
    }

    private static void headersAreNotLookedAt() {
        checks.sentence("Other attributes of an h, its text and its inner elements are not looked at, here and below.");
        mayStand("<h x=\"y\" id=\"q\" k=\"zz\" v=\"2\">text &amp; <b/><p id=\"1\"/><r h=\"9\"/><e>x</e></h>");
        mayStand("<h at=\"9\" h=\"\" n=\"77\" o=\"x\"/>");
        mayStand("<h> </h><h>abcdefghij</h>");
        mayStand("<h>" + "<t/>".repeat(30) + "</h>");
        reading.graph("<e v=\"1\"><h><t id=\"1\">no</t></h><h><p/></h><b><r h=\"1\"/><t id=\"1\">yes</t></b></e>", 0, "T(yes)");
        reading.fault("<e v=\"1\"><h><t id=\"1\">no</t></h><b><r h=\"1\"/></b></e>", GraphPages.CONTENT);
        reading.fault("<e v=\"1\"><h><b><t/></b></h></e>", GraphPages.CONTENT);
        reading.fault("<e v=\"1\"><h>&bad;</h>" + BODY + "</e>", GraphPages.FORM);
        reading.fault("<e v=\"1\"><h x=\"\" x=\"\"/>" + BODY + "</e>", GraphPages.FORM);
    }

    private static void theFirstFaultIsTold() {
        checks.sentence("READING a page gives the first FAULT of this list that holds");
        reading.fault("<f v=\"1\">" + BODY + "</e>", GraphPages.FORM);
        reading.fault("<e v=\"2\">" + BODY + "</e>x", GraphPages.FORM);
        reading.fault("<e v=\"1\"><h m=\"1\"/>" + BODY + "</e> ", GraphPages.FORM);
        reading.fault("<e v=\"1\"><b><n/></b></e>&", GraphPages.FORM);
        reading.fault("<f><h m=\"1\"/><q/>&</f>", GraphPages.FORM);
        reading.fault("<f v=\"1\"><h m=\"1\"/>" + BODY + "</f>", GraphPages.VERSION);
        reading.fault("<e v=\"2\"><h m=\"1\"/>" + BODY + "</e>", GraphPages.VERSION);
        reading.fault("<e v=\"2\"><b><n/></b></e>", GraphPages.VERSION);
        reading.fault("<f><h m=\"1\"/><q/></f>", GraphPages.VERSION);
        reading.fault("<e v=\"1\"><h m=\"1\"/><b><n/></b></e>", GraphPages.MUST);
        reading.fault("<e v=\"1\" w=\"1\"><h m=\"1\"/>" + BODY + "</e>", GraphPages.MUST);
        reading.fault("<e v=\"1\">x<q/><h m=\"1\"/></e>", GraphPages.MUST);
        reading.fault("<e v=\"1\" w=\"1\"><h m=\"2\"/></e>", GraphPages.CONTENT);
        reading.fault("<e v=\"1\"><b><n/></b></e>", GraphPages.CONTENT);
    }

    private static void understandingDecides() {
        checks.sentence("Answers the number of the root, the new objects being there then; or the fault.");
        Pages pages = Pages.withPage(withHeader("<h m=\"1\" k=\"31\"/>"));
        checks.due("decode()", pages.decode(), GraphPages.MUST);
        checks.due("objects()", pages.objects(), 0);
        pages.understand(31, true);
        checks.due("decode()", pages.decode(), 0);
        checks.due("objects()", pages.objects(), 1);
        pages.alter(6, '2');
        checks.due("decode() of version 2", pages.decode(), GraphPages.VERSION);
        pages.alter(6, '1');
        pages.alter(0, '>');
        checks.due("decode() of a broken page", pages.decode(), GraphPages.FORM);
        pages.alter(0, '<');
        checks.due("decode() of a mended page", pages.decode(), 1);
        checks.due("graph", pages.graph(), "T() T()");
    }
}
