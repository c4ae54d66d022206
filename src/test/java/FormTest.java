/** Promise 14, the fault FORM: what is well formed and what is not. */
public final class FormTest {
    private static final Checks checks = new Checks();
    private static final Reading reading = new Reading(checks);

    public static void main(String[] args) {
        oneElement();
        nothingElse();
        bothFormsOfAnElement();
        sameNameAtBothEnds();
        namesOfElements();
        lettersOfNames();
        numberOfAttributes();
        noTwoWithTheSameName();
        namesOfAttributes();
        spacesBeforeAttributes();
        formOfAttributes();
        charactersOfValues();
        spacesInStarts();
        spacesInEnds();
        charactersOfContent();
        entities();
        codes();
        digitsOfCodes();
        brokenCodes();
        depth();
        depthOfBranches();
        manyElements();
        brokenAnywhere();
        checks.end();
    }

    private static void oneElement() {
        checks.sentence("WELL FORMED is a page that is one element");
        reading.notWellFormed("");
        reading.notWellFormed(" ");
        reading.notWellFormed("x");
        reading.notWellFormed("&lt;");
        reading.wellFormed("<a/>");
        reading.wellFormed("<a></a>");
        reading.notWellFormed("<a/><a/>");
        reading.notWellFormed("<a></a><a></a>");
        reading.notWellFormed("<a/><b/>");
        reading.notWellFormed("<a></a><b/>");
    }

    private static void nothingElse() {
        checks.sentence("and nothing else");
        String page = "<e v=\"1\"><b><t/></b></e>";
        reading.graph(page, 0, "T()");
        for (String other : new String[] {" ", "x", ">", "<", "/", "&lt;", "&#32;", "</e>", "<e/>", "<e>"}) {
            reading.notWellFormed(other + page);
            reading.notWellFormed(page + other);
        }
        reading.notWellFormed("</a>");
        reading.notWellFormed("<a/></a>");
    }

    private static void bothFormsOfAnElement() {
        checks.sentence("An ELEMENT is <name attributes/> or <name attributes>content</name>");
        for (String page : new String[] {"<a/>", "<a b=\"\"/>", "<a></a>", "<a b=\"\"></a>", "<a>x</a>", "<a><b/></a>",
            "<a><b></b></a>", "<a>x<b/>y<c>z</c></a>", "<a><a/><a></a></a>"}) {
            reading.wellFormed(page);
        }
        for (String page : new String[] {"<a", "<a>", "<a/", "<a//>", "<a/a>", "<a></a", "<a></", "<a><", "<a>x",
            "<a/></a>",
            "<a><b></a>", "<a><b>", "<a><b/>", "<a b=\"\">", "<a b=\"\"/", "<", "</", "</>", "<>", "<></>", "a/>", "a></a>"}) {
            reading.notWellFormed(page);
        }
    }

    private static void sameNameAtBothEnds() {
        checks.sentence("the same name at both ends");
        reading.wellFormed("<ab></ab>");
        reading.wellFormed("<abcdef></abcdef>");
        for (String end : new String[] {"ac", "a", "b", "abc", "ba", "", "aB", "bb"}) {
            reading.notWellFormed("<ab></" + end + ">");
        }
        reading.notWellFormed("<abcdef></abcdeg>");
        reading.notWellFormed("<abcdef></bbcdef>");
        reading.notWellFormed("<a><b></a></b>");
        reading.notWellFormed("<a></b></a>");
        reading.notWellFormed("<a><a></a>");
        reading.notWellFormed("<a></a></a>");
        reading.wellFormed("<a><b></b><b></b></a>");
        reading.notWellFormed("<a><b/></b></a>");
    }

    private static void namesOfElements() {
        checks.sentence("A NAME is 1 to 6 letters");
        String letters = "abcdefghij";
        for (int length = 0; length <= 10; length++) {
            String name = letters.substring(0, length);
            if (length >= 1 && length <= 6) {
                reading.wellFormed("<" + name + "/>");
                reading.wellFormed("<" + name + "></" + name + ">");
                reading.wellFormed("<x><" + name + "/></x>");
            } else {
                reading.notWellFormed("<" + name + "/>");
                reading.notWellFormed("<" + name + "></" + name + ">");
                reading.notWellFormed("<x><" + name + "/></x>");
            }
        }
        reading.notWellFormed("<abcdef></abcdefg>");
        reading.notWellFormed("<abcdefg></abcdef>");
    }

    /** Every character that can stand on a page, in the place of a letter. */
    private static void lettersOfNames() {
        checks.sentence("letters a .. z");
        for (char c = 32; c <= 126; c++) {
            if (c >= 'a' && c <= 'z') {
                reading.wellFormed("<" + c + "/>");
                reading.wellFormed("<x" + c + "></x" + c + ">");
                reading.wellFormed("<x " + c + "=\"\"/>");
                reading.wellFormed("<x y" + c + "=\"\"/>");
            } else {
                reading.notWellFormed("<" + c + "></" + c + ">");
                reading.notWellFormed("<x " + c + "=\"\"/>");
                reading.notWellFormed("<x y" + c + "=\"\"/>");
                reading.notWellFormed("<x" + c + "y></x" + c + "y>");
            }
        }
        reading.notWellFormed("<xA/>");
        reading.notWellFormed("<x1/>");
    }

    private static void numberOfAttributes() {
        checks.sentence("Attributes: none to 6");
        String[] names = {"a", "b", "c", "d", "e", "f", "g", "h"};
        StringBuilder attributes = new StringBuilder();
        for (int count = 0; count <= 8; count++) {
            for (String end : new String[] {"/>", " />", "></x>", " ></x>"}) {
                if (count <= 6) {
                    reading.wellFormed("<x" + attributes + end);
                    reading.wellFormed("<y a=\"\" b=\"\" c=\"\"><x" + attributes + end + "</y>");
                } else {
                    reading.notWellFormed("<x" + attributes + end);
                    reading.notWellFormed("<y a=\"\"><x" + attributes + end + "</y>");
                }
            }
            attributes.append(' ').append(names[count % names.length]).append("=\"\"");
        }
    }

    private static void noTwoWithTheSameName() {
        checks.sentence("no two with the same name");
        reading.notWellFormed("<a v=\"1\" v=\"1\"/>");
        reading.notWellFormed("<a v=\"1\" v=\"2\"></a>");
        reading.notWellFormed("<a v=\"\" w=\"\" v=\"\"/>");
        reading.notWellFormed("<a v=\"\" w=\"\" w=\"\"/>");
        reading.notWellFormed("<a abcdef=\"\" b=\"\" abcdef=\"\"/>");
        reading.notWellFormed("<x a=\"\" b=\"\" c=\"\" d=\"\" e=\"\" a=\"\"/>");
        reading.notWellFormed("<x a=\"\" b=\"\" c=\"\" d=\"\" e=\"\" e=\"\"/>");
        reading.notWellFormed("<a><b v=\"1\" v=\"1\"/></a>");
        reading.wellFormed("<a v=\"1\" vv=\"1\" vvv=\"2\" w=\"1\"/>");
        reading.wellFormed("<a abcdef=\"\" abcdeg=\"\" bbcdef=\"\" abcde=\"\"/>");
        reading.wellFormed("<a v=\"1\"><b v=\"1\"/><b v=\"1\"/></a>");
        reading.wellFormed("<a a=\"a\" b=\"a\"/>");
    }

    private static void namesOfAttributes() {
        checks.sentence("each is one or more spaces, a name");
        String letters = "abcdefghij";
        for (int length = 0; length <= 10; length++) {
            String page = "<x " + letters.substring(0, length) + "=\"1\"/>";
            if (length >= 1 && length <= 6) {
                reading.wellFormed(page);
            } else {
                reading.notWellFormed(page);
            }
        }
    }

    private static void spacesBeforeAttributes() {
        checks.sentence("each is one or more spaces");
        for (int spaces = 0; spaces <= 9; spaces++) {
            String gap = " ".repeat(spaces);
            if (spaces > 0) {
                reading.wellFormed("<x" + gap + "a=\"\"/>");
                reading.wellFormed("<x a=\"\"" + gap + "b=\"\"></x>");
                reading.wellFormed("<x a=\"\"" + gap + "b=\"\"" + gap + "c=\"\"/>");
            } else {
                reading.notWellFormed("<xa=\"\"/>");
                reading.notWellFormed("<x a=\"\"b=\"\"/>");
                reading.notWellFormed("<x a=\"\"b=\"\"></x>");
                reading.notWellFormed("<x a=\"\" b=\"\"c=\"\"/>");
            }
        }
    }

    private static void formOfAttributes() {
        checks.sentence("a name, the character =, and between two double quotes a VALUE");
        reading.wellFormed("<a v=\"1\"/>");
        for (String attribute : new String[] {"v", "v=", "v=1", "v='1'", "v=\"", "v=\"1", "v=1\"", "v\"1\"",
            "=\"1\"", "\"1\"",
            "v==\"1\"", "v=\"\"\"", "v=\"1\"\"", "v=\"1\" \"2\"", "v:\"1\"", "v=`1`", "v=\"1\",", "=", "v=\"1\"=\"2\""}) {
            reading.notWellFormed("<a " + attribute + "/>");
            reading.notWellFormed("<a " + attribute + "></a>");
            reading.notWellFormed("<a " + attribute);
        }
    }

    /** Every character that can stand on a page, in a VALUE. */
    private static void charactersOfValues() {
        checks.sentence("any row, perhaps empty, of characters but the double quote, < and &");
        reading.wellFormed("<a v=\"\"/>");
        reading.wellFormed("<a v=\"\"></a>");
        for (char c = 32; c <= 126; c++) {
            for (String value : new String[] {"" + c, "x" + c, c + "x", "x" + c + "y"}) {
                if (c == '"' || c == '<' || c == '&') {
                    reading.notWellFormed("<a v=\"" + value + "\"/>");
                } else {
                    reading.wellFormed("<a v=\"" + value + "\"/>");
                }
            }
        }
        reading.notWellFormed("<a v=\"&lt;\"/>");
        reading.notWellFormed("<a v=\"&#65;\"/>");
        reading.wellFormed("<a v=\"/>\"/>");
        reading.wellFormed("<a v=\">/a>\"></a>");
        reading.wellFormed("<a v=\"" + "x".repeat(150) + "\"/>");
    }

    private static void spacesInStarts() {
        checks.sentence("Spaces may also stand directly before the > or /> that ends a start; nowhere else in a start");
        for (String page : new String[] {"<a />", "<a    />", "<a ></a>", "<a    ></a>", "<a v=\"1\" />",
            "<a v=\"1\"    />",
            "<a v=\"1\" ></a>", "<a v=\"1\"    ></a>", "<b><a /></b>", "<b ><a ></a></b>"}) {
            reading.wellFormed(page);
        }
        for (String page : new String[] {"< a/>", "< a></a>", "<a/ >", "<a / >", "<a v =\"1\"/>", "<a v= \"1\"/>",
            "<a v = \"1\"/>", "<a v=\"1\"/ >", "<a b c=\"1\"/>", "<a b/>", "<a b ></a>", "<ab cd/>", "< />", "< ></ >", "<a "}) {
            reading.notWellFormed(page);
        }
    }

    private static void spacesInEnds() {
        checks.sentence("and nowhere in </name>");
        reading.wellFormed("<a> </a>");
        for (String page : new String[] {"<a></ a>", "<a></a >", "<a>< /a>", "<a></ a >", "<ab></a b>",
            "<a><b></b ></a>",
            "<a></a v=\"1\">", "<a></a/>"}) {
            reading.notWellFormed(page);
        }
    }

    /** Every character that can stand on a page, in content: those that stand for themselves are read so. */
    private static void charactersOfContent() {
        checks.sentence("A character stands for itself; but < does not, and & must begin one of");
        for (char c = 32; c <= 126; c++) {
            if (c == '<' || c == '&') {
                reading.notWellFormed(Reading.inBody("<t>" + c + "</t>"));
                reading.notWellFormed(Reading.inBody("<t>x" + c + "y</t>"));
                reading.notWellFormed(Reading.inBody("<t>" + c + " </t>"));
            } else {
                reading.content("<t>" + c + "</t>", 0, "T(" + c + ")");
                reading.content("<t>x" + c + c + "y</t>", 0, "T(x" + c + c + "y)");
            }
        }
        reading.notWellFormed("<a>x < y</a>");
        reading.notWellFormed("<a><</a>");
        reading.notWellFormed("<a><<b/></a>");
        reading.notWellFormed("<a><1/></a>");
    }

    private static void entities() {
        checks.sentence("& must begin one of &lt; &gt; &amp; &quot; &#d; .. these five stand for < > & the double quote");
        reading.content("<t>&lt;</t>", 0, "T(<)");
        reading.content("<t>&gt;</t>", 0, "T(>)");
        reading.content("<t>&amp;</t>", 0, "T(&)");
        reading.content("<t>&quot;</t>", 0, "T(\")");
        reading.content("<t>a&lt;&gt;&amp;&quot;b</t>", 0, "T(a<>&\"b)");
        reading.content("<t>&amp;lt;</t>", 0, "T(&lt;)");
        reading.content("<t>&amp;#65;</t>", 0, "T(&#65;)");
        for (String entity : new String[] {"&", "&;", "& ", "&l;", "&t;", "&lt", "&gt", "&amp", "&quot", "&lt :",
            "&LT;", "&Lt;",
            "&apos;", "&nbsp;", "&ltt;", "&llt;", "&am;", "&ampp;", "&quo;", "&quott;", "& lt;", "&lt ;", "&&lt;", "&l&lt;",
            "&lt&gt;", "&65;", "&x;"}) {
            reading.notWellFormed("<a>" + entity + "</a>");
            reading.notWellFormed("<a>" + entity);
            reading.notWellFormed(Reading.inBody("<t>x" + entity + "</t>"));
        }
    }

    private static void codes() {
        checks.sentence("&#d; where d is one to three digits whose number is 32 .. 126 .. the character with that code");
        for (int code = 0; code <= 999; code++) {
            String three = Integer.toString(1000 + code).substring(1);
            for (String digits : new String[] {Integer.toString(code), three, three.substring(1)}) {
                if (Integer.parseInt(digits) != code) {
                    continue;
                }
                if (code >= 32 && code <= 126) {
                    reading.content("<t>&#" + digits + ";</t>", 0, "T(" + (char) code + ")");
                } else {
                    reading.notWellFormed("<t>&#" + digits + ";</t>");
                }
            }
        }
    }

    private static void digitsOfCodes() {
        checks.sentence("one to three digits");
        reading.notWellFormed("<a>&#;</a>");
        reading.notWellFormed("<a>&#9;</a>");
        reading.content("<t>&#99;&#099;</t>", 0, "T(cc)");
        for (String digits : new String[] {"0032", "0099", "0126", "1000", "1260", "00065", "4294967361", "65536",
            "321", "0000"}) {
            reading.notWellFormed("<a>&#" + digits + ";</a>");
        }
        reading.content("<t>&#65;5</t>", 0, "T(A5)");
        reading.content("<t>&#065;5;</t>", 0, "T(A5;)");
    }

    private static void brokenCodes() {
        checks.sentence("& must begin one of");
        for (String entity : new String[] {"&#", "&#6", "&#65", "&#065", "&#65 ;", "&# 65;", "&#-65;", "&#+65;",
            "&#x41;", "&#a;",
            "&#6a;", "&#65a;", "&#/5;", "&#:5;", "&#6/;", "&#6:;", "&#65&#65;", "&##65;", "&#65,", "&#65:"}) {
            reading.notWellFormed("<a>" + entity + "</a>");
            reading.notWellFormed("<a>" + entity);
        }
    }

    private static String nested(int deep, String inmost) {
        return "<e v=\"1\"><h>" + "<x>".repeat(deep - 3) + inmost + "</x>".repeat(deep - 3) + "</h><b><t/></b></e>";
    }

    private static void depth() {
        checks.sentence("Elements are nested at most 20 deep (the outermost is 1 deep).");
        for (String inmost : new String[] {"<y/>", "<y></y>", "<y>z</y>", "<y/><y/>", "<y></y><y/>"}) {
            reading.graph(nested(19, inmost), 0, "T()");
            reading.graph(nested(20, inmost), 0, "T()");
            reading.notWellFormed(nested(21, inmost));
            reading.notWellFormed(nested(22, inmost));
        }
        reading.wellFormed("<a>".repeat(20) + "</a>".repeat(20));
        reading.wellFormed("<a>".repeat(19) + "<a/>" + "</a>".repeat(19));
        reading.wellFormed("<a>".repeat(20) + "text" + "</a>".repeat(20));
        reading.notWellFormed("<a>".repeat(21) + "</a>".repeat(21));
        reading.notWellFormed("<a>".repeat(20) + "<a/>" + "</a>".repeat(20));
        reading.notWellFormed("<a>".repeat(60));
    }

    private static void depthOfBranches() {
        checks.sentence("Elements are nested at most 20 deep");
        String branch = "<a>".repeat(18) + "<a/>" + "</a>".repeat(18);
        reading.wellFormed("<x>" + branch + branch + "</x>");
        String deeper = "<a>".repeat(19) + "<a/>" + "</a>".repeat(19);
        reading.notWellFormed("<x><a/>" + deeper + "</x>");
        reading.wellFormed("<x>" + "<a/>".repeat(60) + "</x>");
        reading.wellFormed("<x>" + "<a></a>".repeat(30) + "</x>");
    }

    private static void manyElements() {
        checks.sentence("CONTENT is any row of elements and characters.");
        reading.wellFormed("<a>" + "<b/>".repeat(100) + "</a>");
        reading.wellFormed("<a>" + "<b c=\"\"/>".repeat(40) + "</a>");
        reading.wellFormed("<a>" + "x<b/>".repeat(50) + "</a>");
        reading.wellFormed("<a>" + "x".repeat(300) + "</a>");
        reading.wellFormed("<a>" + "&lt;".repeat(60) + "</a>");
        reading.graph("<e v=\"1\">" + "<h/>".repeat(100) + "<b><t/></b></e>", 0, "T()");
        reading.notWellFormed("<b/>".repeat(50));
    }

    /** A page that lacks its end anywhere is no whole element. */
    private static void brokenAnywhere() {
        checks.sentence("WELL FORMED is a page that is one element and nothing else.");
        String page = "<e v=\"1\"><h k=\"5\" />x&quot;<b ><t id=\"1\">&#65;&lt;</t></b></e>";
        for (int length = 0; length < page.length(); length++) {
            reading.notWellFormed(page.substring(0, length));
        }
        reading.wellFormed(page);
    }
}
