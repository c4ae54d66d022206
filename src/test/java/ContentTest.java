/** Promise 14, the fault CONTENT: the elements e, b, p, t, n and i, and the attributes of all. */
public final class ContentTest {
    private static final Checks checks = new Checks();
    private static final Reading reading = new Reading(checks);

    public static void main(String[] args) {
        attributesOfTheOutermost();
        textOfTheOutermost();
        childrenOfTheOutermost();
        attributesOfTheBody();
        textOfTheBody();
        firstChildOfTheBody();
        laterChildrenOfTheBody();
        idsOfLaterChildren();
        childrenOfAPair();
        slotsOfAPair();
        textOfAPair();
        lengthOfAText();
        charactersOfAText();
        childrenOfAText();
        nothings();
        digitsOfNumbers();
        boundsOfNumbers();
        formOfNumbers();
        childrenOfNumbers();
        textOutsideOfInnerElements();
        ownAttributesOnly();
        atInArraysOnly();
        valuesAreCounts();
        boundsOfCounts();
        checks.end();
    }

    private static void outermost(String page, boolean good) {
        if (good) {
            reading.graph(page, 0, "T()");
        } else {
            reading.fault(page, GraphPages.CONTENT);
        }
    }

    // e and b

    private static void attributesOfTheOutermost() {
        checks.sentence("Element e has only the attribute v");
        outermost("<e v=\"1\"><b><t/></b></e>", true);
        for (String name : new String[] {"w", "id", "n", "o", "at", "h", "m", "k", "vv"}) {
            outermost("<e v=\"1\" " + name + "=\"1\"><b><t/></b></e>", false);
            outermost("<e " + name + "=\"1\" v=\"1\"><b><t/></b></e>", false);
        }
        outermost("<e v=\"1\" x=\"\"><b><t/></b></e>", false);
    }

    private static void textOfTheOutermost() {
        checks.sentence("Element e has .. no text");
        for (String text : new String[] {" ", "x", "&#32;", "&lt;", ">", "1"}) {
            outermost("<e v=\"1\">" + text + "<b><t/></b></e>", false);
            outermost("<e v=\"1\"><b><t/></b>" + text + "</e>", false);
            outermost("<e v=\"1\"><h/>" + text + "<b><t/></b></e>", false);
            outermost("<e v=\"1\"><h>" + text + "</h><b><t/></b></e>", true);
        }
    }

    private static void childrenOfTheOutermost() {
        checks.sentence("as children any number of h, then one b");
        String body = "<b><t/></b>";
        for (int headers = 0; headers <= 20; headers++) {
            outermost("<e v=\"1\">" + "<h/>".repeat(headers) + body + "</e>", true);
            outermost("<e v=\"1\">" + "<h/>".repeat(headers) + "</e>", false);
        }
        outermost("<e v=\"1\"/>", false);
        outermost("<e v=\"1\">" + body + body + "</e>", false);
        outermost("<e v=\"1\"><h/>" + body + body + "</e>", false);
        outermost("<e v=\"1\">" + body + "<h/></e>", false);
        outermost("<e v=\"1\"><h/>" + body + "<h/></e>", false);
        outermost("<e v=\"1\">" + body + "<h/>" + body + "</e>", false);
        for (String name : new String[] {"x", "e", "t", "p", "a", "bb", "hh", "i", "n", "r", "c", "g"}) {
            outermost("<e v=\"1\"><" + name + "/></e>", false);
            outermost("<e v=\"1\"><" + name + "/>" + body + "</e>", false);
            outermost("<e v=\"1\">" + body + "<" + name + "/></e>", false);
            outermost("<e v=\"1\"><h/><" + name + "/>" + body + "</e>", false);
            outermost("<e v=\"1\"><" + name + "><t/></" + name + "></e>", false);
        }
    }

    private static void attributesOfTheBody() {
        checks.sentence("Element b has no attributes");
        for (String name : new String[] {"id", "v", "n", "o", "at", "h", "x"}) {
            outermost("<e v=\"1\"><b " + name + "=\"1\"><t/></b></e>", false);
            outermost("<e v=\"1\"><h " + name + "=\"1\"/><b><t/></b></e>", true);
        }
        outermost("<e v=\"1\"><b x=\"\"><t/></b></e>", false);
        outermost("<e v=\"1\"><b ><t/></b></e>", true);
    }

    private static void textOfTheBody() {
        checks.sentence("Element b has .. no text");
        for (String text : new String[] {" ", "x", "&#32;", "&lt;", ">"}) {
            reading.contentFault(text + "<t/>");
            reading.contentFault("<t/>" + text);
            reading.contentFault("<t/>" + text + "<t id=\"1\"/>");
            reading.content("<t>" + text + "</t>", 0, "T(" + text.replace("&#32;", " ").replace("&lt;", "<") + ")");
        }
    }

    private static void firstChildOfTheBody() {
        checks.sentence("as children first one p, a, t or r");
        reading.content("<p><n/><n/></p>", 0, "P[- -]");
        reading.content("<a n=\"1\"/>", 0, "A[-]");
        reading.content("<t/>", 0, "T()");
        reading.content("<r h=\"1\"/><t id=\"1\"/>", 0, "T()");
        reading.contentFault("");
        reading.fault("<e v=\"1\"><b/></e>", GraphPages.CONTENT);
        for (String element : new String[] {"<n/>", "<i>1</i>", "<b/>", "<e/>", "<h/>", "<x/>", "<b><t/></b>", "<tt/>",
            "<pp><n/><n/></pp>", "<aa n=\"1\"/>", "<rr h=\"1\"/>"}) {
            reading.contentFault(element);
            reading.contentFault(element + "<t id=\"1\"/>");
        }
    }

    private static void laterChildrenOfTheBody() {
        checks.sentence("then any number of p, a, t");
        String first = "<t>1</t>";
        reading.content(first + "<p id=\"1\"><n/><n/></p>", 0, "T(1) P[- -]");
        reading.content(first + "<a id=\"1\" n=\"0\"/>", 0, "T(1) A[]");
        reading.content(first + "<t id=\"1\"/>", 0, "T(1) T()");
        reading.content(first + "<t id=\"1\"/><a id=\"2\" n=\"1\"/><p id=\"3\"><n/><n/></p>", 0, "T(1) T() A[-] P[- -]");
        for (String element : new String[] {"<r h=\"1\"/>", "<r h=\"1\" id=\"2\"/>", "<n/>", "<n id=\"2\"/>",
            "<i>1</i>",
            "<i id=\"2\">1</i>", "<b/>", "<h/>", "<e/>", "<x id=\"2\"/>"}) {
            reading.contentFault("<t id=\"1\"/>" + element);
            reading.contentFault("<r h=\"1\"/>" + element + "<t id=\"1\"/>");
            reading.contentFault("<r h=\"1\"/><t id=\"1\"/>" + element);
        }
    }

    private static void idsOfLaterChildren() {
        checks.sentence("these later ones must have an attribute id, the first may");
        String[] without = {"<p><n/><n/></p>", "<a n=\"0\"/>", "<t/>"};
        String[] with = {"<p id=\"5\"><n/><n/></p>", "<a id=\"5\" n=\"0\"/>", "<t id=\"5\"/>"};
        String[] shown = {"P[- -]", "A[]", "T()"};
        for (int i = 0; i < 3; i++) {
            reading.content(without[i], 0, shown[i]);
            reading.content(with[i], 0, shown[i]);
            reading.content("<t/>" + with[i], 0, "T() " + shown[i]);
            reading.content("<t id=\"1\"/>" + with[i], 0, "T() " + shown[i]);
            reading.contentFault("<t/>" + without[i]);
            reading.contentFault("<t id=\"1\"/>" + without[i]);
            reading.contentFault("<t/><t id=\"1\"/>" + without[i]);
            reading.contentFault("<t/>" + without[i] + "<t id=\"1\"/>");
            reading.contentFault("<r h=\"1\"/>" + without[i] + "<t id=\"1\"/>");
        }
    }

    // p

    private static void childrenOfAPair() {
        checks.sentence("p (a PAIR): .. two children");
        reading.contentFault("<p/>");
        reading.contentFault("<p></p>");
        reading.contentFault("<p><n/></p>");
        reading.content("<p><n/><n/></p>", 0, "P[- -]");
        reading.contentFault("<p><n/><n/><n/></p>");
        reading.contentFault("<p><n/><n/><n/><n/></p>");
        reading.contentFault("<p><p><n/><n/></p></p>");
        reading.contentFault("<p><n/><p/></p>");
    }

    private static void slotsOfAPair() {
        checks.sentence("each one of n, i, p, a, t, r, for the slots 0 and 1");
        String[] children = {"<n/>", "<i>3</i>", "<p><n/><n/></p>", "<a n=\"1\"/>", "<t>x</t>", "<r h=\"9\"/>"};
        String[] slots = {"-", "3", "@1", "@1", "@1", "@0"};
        String[] objects = {"", "", " P[- -]", " A[-]", " T(x)", ""};
        for (int i = 0; i < 6; i++) {
            reading.content("<p id=\"9\">" + children[i] + "<i>7</i></p>", 0, "P[" + slots[i] + " 7]" + objects[i]);
            reading.content("<p id=\"9\"><i>7</i>" + children[i] + "</p>", 0, "P[7 " + slots[i] + "]" + objects[i]);
        }
        for (String child : new String[] {"<b/>", "<b><t/></b>", "<e/>", "<h/>", "<x/>", "<nn/>", "<ii>1</ii>",
            "<m/>", "<q/>"}) {
            reading.contentFault("<p>" + child + "<n/></p>");
            reading.contentFault("<p><n/>" + child + "</p>");
            reading.contentFault("<a n=\"2\">" + child + "</a>");
        }
    }

    private static void textOfAPair() {
        checks.sentence("p (a PAIR): no text");
        for (String text : new String[] {" ", "x", "&#32;", "&gt;", "0"}) {
            reading.contentFault("<p>" + text + "<n/><n/></p>");
            reading.contentFault("<p><n/>" + text + "<n/></p>");
            reading.contentFault("<p><n/><n/>" + text + "</p>");
        }
        reading.content("<p><t>x</t><t> </t></p>", 0, "P[@1 @2] T(x) T( )");
    }

    // t

    private static void lengthOfAText() {
        checks.sentence("t (a TEXT): .. its characters are its text, at most 6");
        for (int length = 0; length <= 9; length++) {
            String plain = "abcdefghi".substring(0, length);
            String coded = plain.replaceAll("(.)", "&#97;");
            if (length <= 6) {
                reading.content("<t>" + plain + "</t>", 0, "T(" + plain + ")");
                reading.content("<t>" + coded + "</t>", 0, "T(" + "a".repeat(length) + ")");
            } else {
                reading.contentFault("<t>" + plain + "</t>");
                reading.contentFault("<t>" + coded + "</t>");
                reading.contentFault("<p><n/><t>" + plain + "</t></p>");
            }
        }
        reading.content("<t/>", 0, "T()");
        reading.content("<t>&amp;&amp;&amp;&amp;&amp;&amp;</t>", 0, "T(&&&&&&)");
        reading.contentFault("<t>abcdef&lt;</t>");
        reading.contentFault("<t>       </t>");
    }

    private static void charactersOfAText() {
        checks.sentence("The TEXT OF an element is the row of characters that its content stands for");
        reading.content("<t>&lt;&gt;&amp;&quot;&#65;&#032;</t>", 0, "T(<>&\"A )");
        reading.content("<t>&#60;b/>&#38;</t>", 0, "T(<b/>&)");
        reading.content("<t>  a  </t>", 0, "T(  a  )");
        reading.content("<t>\"'>/=</t>", 0, "T(\"'>/=)");
        reading.content("<p><t>ab</t><t>cd</t></p>", 0, "P[@1 @2] T(ab) T(cd)");
    }

    private static void childrenOfAText() {
        checks.sentence("t (a TEXT): no children");
        for (String child : new String[] {"<n/>", "<i>1</i>", "<t/>", "<t>b</t>", "<p><n/><n/></p>",
            "<a n=\"0\"/>", "<x/>", "<x></x>"}) {
            reading.contentFault("<t>" + child + "</t>");
            reading.contentFault("<t>a" + child + "</t>");
            reading.contentFault("<t>" + child + "a</t>");
        }
    }

    // n and i

    private static void nothings() {
        checks.sentence("n: no text, no children: NOTHING.");
        reading.content("<p><n/><n></n></p>", 0, "P[- -]");
        for (String inside : new String[] {" ", "0", "x", "&#32;", "<n/>", "<x/>", "<i>1</i>", "<t/>"}) {
            reading.contentFault("<p><n>" + inside + "</n><n/></p>");
            reading.contentFault("<a n=\"2\"><n>" + inside + "</n></a>");
        }
    }

    private static void number(String text, int want) {
        reading.content("<p><i>" + text + "</i><n/></p>", 0, "P[" + want + " -]");
        reading.content("<a n=\"1\"><i>" + text + "</i></a>", 0, "A[" + want + "]");
    }

    private static void noNumber(String text) {
        reading.contentFault("<p><i>" + text + "</i><n/></p>");
        reading.contentFault("<a n=\"1\"><i>" + text + "</i></a>");
    }

    private static void digitsOfNumbers() {
        checks.sentence("A NUMBER is an optional - and one to ten digits (zeros in front, and -0, too)");
        noNumber("");
        noNumber("-");
        for (int digits = 1; digits <= 10; digits++) {
            number("0".repeat(digits), 0);
            number("-" + "0".repeat(digits), 0);
            number("0".repeat(digits - 1) + "7", 7);
            number("-" + "0".repeat(digits - 1) + "7", -7);
            number("1".repeat(digits), Integer.parseInt("1".repeat(digits)));
        }
        for (int digits = 11; digits <= 13; digits++) {
            noNumber("0".repeat(digits));
            noNumber("-" + "0".repeat(digits));
            noNumber("0".repeat(digits - 1) + "7");
            noNumber("-" + "0".repeat(digits - 1) + "7");
            noNumber("1".repeat(digits));
        }
    }

    private static void boundsOfNumbers() {
        checks.sentence("with a value from -2^31 to 2^31 - 1");
        number("2147483646", 2147483646);
        number("2147483647", 2147483647);
        noNumber("2147483648");
        noNumber("2147483649");
        number("-2147483647", -2147483647);
        number("-2147483648", -2147483648);
        noNumber("-2147483649");
        noNumber("-2147483650");
        // What an int or a long would take for another number when it wraps around.
        for (String text : new String[] {"4294967295", "4294967296", "4294967297", "-4294967295", "-4294967296",
            "-4294967297",
            "6442450943", "9999999999", "-9999999999", "8589934592", "18446744073709551616", "18446744073709551617"}) {
            noNumber(text);
        }
    }

    private static void formOfNumbers() {
        checks.sentence("i: .. its text is a NUMBER: that int.");
        number("&#45;1&#050;", -12);
        number("&#48;", 0);
        for (String text : new String[] {"--1", "+1", " 1", "1 ", "1-", "- 1", "1 2", "1.0", "1,0", "a", "1a",
            "a1", "/1", "1:", "/",
            ":", "0x1", "1e1", "&lt;", "1&#32;", " ", "-a", "1-1"}) {
            noNumber(text);
        }
        // Every character that can stand for a digit or not.
        for (char c = 32; c <= 126; c++) {
            if (c >= '0' && c <= '9') {
                number("" + c, c - '0');
                number("5" + c, 50 + c - '0');
            } else {
                noNumber("&#" + (int) c + ";");
                noNumber("5&#" + (int) c + ";");
            }
        }
    }

    private static void childrenOfNumbers() {
        checks.sentence("i: no children");
        noNumber("1<n/>");
        noNumber("<n/>1");
        noNumber("1<x/>2");
        noNumber("<i>1</i>");
        reading.contentFault("<p><i/><n/></p>");
    }

    private static void textOutsideOfInnerElements() {
        checks.sentence("The TEXT OF an element .. outside of its inner elements");
        reading.content("<p><t>ab</t><p><i>12</i><t>cd</t></p></p>", 0, "P[@1 @2] T(ab) P[12 @3] T(cd)");
        reading.content("<a n=\"2\"><i>1</i><t>2</t></a>", 0, "A[1 @1] T(2)");
        reading.contentFault("<p><p><n/>x<n/></p><n/></p>");
    }

    // Attributes

    private static String elementWith(String element, String attribute, String value) {
        String given = " " + attribute + "=\"" + value + "\"";
        String needed = element.equals("a") && !attribute.equals("n") ? " n=\"3\""
            : element.equals("r") && !attribute.equals("h") ? " h=\"2\"" : "";
        String inside = element.equals("p") ? "<n/><n/>" : element.equals("i") ? "5" : "";
        return "<" + element + given + needed + ">" + inside + "</" + element + ">";
    }

    private static void readsOrNot(String page, boolean good) {
        if (good) {
            Pages pages = Pages.withPage(page);
            checks.due(page, pages.decode(), 0);
            checks.due("there are objects after " + page, pages.objects() > 0, true);
        } else {
            reading.fault(page, GraphPages.CONTENT);
        }
    }

    private static void ownAttributesOnly() {
        checks.sentence("No other attributes than these stand");
        String[] names = {"id", "n", "o", "h", "v", "m", "k", "x", "ida", "di", "nn", "a", "t", "ta"};
        String[] elements = {"p", "a", "t", "n", "i", "r"};
        String[] own = {"id", "id n o", "id", "", "", "h"};
        for (int i = 0; i < elements.length; i++) {
            for (String name : names) {
                boolean may = (" " + own[i] + " ").contains(" " + name + " ");
                String element = elementWith(elements[i], name, name.equals("h") ? "2" : "1");
                readsOrNot(Reading.inBody("<p>" + element + "<t id=\"2\"/></p>"), may);
                readsOrNot(Reading.inBody("<a n=\"4\">" + element + "<t id=\"2\"/></a>"), may);
                if (i < 3) {
                    readsOrNot(Reading.inBody(element + "<t id=\"2\"/>"), may);
                }
            }
        }
    }

    private static void atInArraysOnly() {
        checks.sentence("Children, each one of n, i, p, a, t, r, and each may bear an attribute at beside its own");
        for (String element : new String[] {"p", "a", "t", "n", "i", "r"}) {
            String child = elementWith(element, "at", "0");
            readsOrNot(Reading.inBody("<a n=\"1\">" + child + "</a><t id=\"2\"/>"), true);
            readsOrNot(Reading.inBody("<p>" + child + "<t id=\"2\"/></p>"), false);
            readsOrNot(Reading.inBody("<p><t id=\"2\"/>" + child + "</p>"), false);
            readsOrNot(Reading.inBody(child + "<t id=\"2\"/>"), false);
            // An ARRAY farther out gives no leave: only the children of one may bear it.
            readsOrNot(Reading.inBody("<a n=\"1\"><p>" + child + "<t id=\"2\"/></p></a>"), false);
        }
        reading.contentFault("<t/><t id=\"1\" at=\"0\"/>");
        reading.contentFault("<p><n at=\"0\"/><n at=\"1\"/></p>");
    }

    private static void valuesAreCounts() {
        checks.sentence("the values of id, n, o, at and h are COUNTs / A COUNT is one or two digits (01 is 1)");
        for (String value : new String[] {"0", "1", "2", "00", "01", "02"}) {
            counts(value, true);
        }
        for (String value : new String[] {"", " ", "1 ", " 1", "a", "1a", "a1", "-1", "+1", "-0", "001", "000",
            "100", "0001", "1.",
            "/", ":", "0/", "0:", "/0", ":0", "o", "l", "#1"}) {
            counts(value, false);
        }
    }

    private static void counts(String value, boolean good) {
        readsOrNot(Reading.inBody("<t id=\"" + value + "\"/>"), good);
        readsOrNot(Reading.inBody("<t/><p id=\"" + value + "\"><n/><n/></p>"), good);
        readsOrNot(Reading.inBody("<a n=\"" + value + "\"/>"), good);
        readsOrNot(Reading.inBody("<a n=\"4\" o=\"" + value + "\"/>"), good);
        readsOrNot(Reading.inBody("<a n=\"4\"><n at=\"" + value + "\"/></a>"), good);
        readsOrNot(Reading.inBody("<p><a n=\"0\" id=\"1\"/><r h=\"" + value + "\"/></p><t id=\"2\"/><t id=\"0\"/>"), good);
    }

    private static void boundsOfCounts() {
        checks.sentence("A COUNT is one or two digits");
        for (int count = 0; count <= 99; count++) {
            String two = Integer.toString(100 + count).substring(1);
            reading.content("<r h=\"" + count + "\"/><t id=\"" + two + "\">q</t>", 0, "T(q)");
            reading.content("<r h=\"" + two + "\"/><t id=\"" + count + "\">q</t>", 0, "T(q)");
        }
        reading.contentFault("<r h=\"100\"/><t id=\"100\"/>");
        reading.contentFault("<r h=\"1\"/><t id=\"001\"/>");
        reading.contentFault("<r h=\"001\"/><t id=\"1\"/>");
    }
}
