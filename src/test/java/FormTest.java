/** Promise 14, the fault FORM: what is well formed and what is not. */
public final class FormTest {
    private static final Checks checks = new Checks();

    public static void main(String[] args) {
        starts();
        ends();
        attributes();
        characters();
        outermost();
        depth();
        manyElements();
        checks.end();
    }

    /** A page is well formed just when reading it finds another fault than FORM, or none. */
    private static void well(String page) {
        checks.due(page + " is well formed", Checks.withPage(page).decode() != GraphPages.FORM, true);
    }

    private static void ill(String page) {
        checks.due(page, Checks.withPage(page).decode(), GraphPages.FORM);
    }

    private static void starts() {
        well("<a/>");
        well("<a />");
        well("<a   />");
        well("<abcdef/>");
        well("<z></z>");
        well("<z  ></z>");
        ill("<abcdefg/>");
        ill("<abcdefg></abcdefg>");
        ill("</>");
        ill("<>");
        ill("<></>");
        ill("< a/>");
        ill("<a/ >");
        ill("<a/");
        ill("<a");
        ill("<");
        ill("<a//>");
        ill("<A/>");
        ill("<aB/>");
        ill("<a1/>");
        ill("<a-b/>");
        ill("<a`/>");
        ill("<a{/>");
        ill("<a>");
        ill("<a ");
    }

    private static void ends() {
        well("<ab></ab>");
        ill("<ab></ac>");
        ill("<ab></a>");
        ill("<ab></abc>");
        ill("<a></ a>");
        ill("<a></a >");
        ill("<a></a");
        ill("<a></");
        ill("<a></>");
        ill("<a>< /a>");
        ill("<a><b></a></b>");
        ill("<a></b></a>");
        ill("<a></a></a>");
        ill("<a><a></a>");
        ill("</a>");
        well("<a><a></a></a>");
        well("<a><b/><b></b><c/></a>");
    }

    private static void attributes() {
        well("<a v=\"\"/>");
        well("<a v=\"1\"></a>");
        well("<a v=\"1\" ></a>");
        well("<a   v=\"1\"   w=\"2\"   />");
        well("<a v=\" >=/' ;#~\"/>");
        well("<a abcdef=\"x\"/>");
        well("<a a=\"\" b=\"\" c=\"\" d=\"\" e=\"\" f=\"\"/>");
        well("<a a=\"\" b=\"\" c=\"\" d=\"\" e=\"\" f=\"\" ></a>");
        ill("<a a=\"\" b=\"\" c=\"\" d=\"\" e=\"\" f=\"\" g=\"\"/>");
        ill("<a abcdefg=\"x\"/>");
        ill("<a v=\"1\"w=\"2\"/>");
        ill("<a v=\"1\" v=\"1\"/>");
        ill("<a v=\"1\" w=\"1\" v=\"2\"/>");
        well("<a v=\"1\" vv=\"1\" vvv=\"2\"/>");
        well("<a v=\"1\"><b v=\"1\"/></a>");
        ill("<a><b v=\"1\" v=\"1\"/></a>");
        ill("<a v =\"1\"/>");
        ill("<a v= \"1\"/>");
        ill("<a v=1/>");
        ill("<a v='1'/>");
        ill("<a v/>");
        ill("<a v=/>");
        ill("<a =\"1\"/>");
        ill("<a \"1\"/>");
        ill("<a v=\"1/>");
        ill("<a v=\"");
        ill("<a v=\"<\"/>");
        ill("<a v=\"&\"/>");
        ill("<a v=\"&lt;\"/>");
        ill("<a v=\"1\"\"/>");
        ill("<a V=\"1\"/>");
        ill("<a v1=\"1\"/>");
        ill("<av=\"1\"/>");
        ill("<a></a v=\"1\">");
    }

    private static void characters() {
        well("<a>x > \" ' / = ; # ~</a>");
        well("<a> x<b/> y </a>");
        well("<a>&lt;&gt;&amp;&quot;</a>");
        well("<a>&#32;&#126;&#032;&#99;&#099;</a>");
        ill("<a>&#31;</a>");
        ill("<a>&#127;</a>");
        ill("<a>&#999;</a>");
        ill("<a>&#0;</a>");
        ill("<a>&#;</a>");
        ill("<a>&#0065;</a>");
        ill("<a>&#1000;</a>");
        ill("<a>&#65</a>");
        ill("<a>&#x41;</a>");
        ill("<a>&#-65;</a>");
        ill("<a>&# 65;</a>");
        ill("<a>&apos;</a>");
        ill("<a>&lt</a>");
        ill("<a>&LT;</a>");
        ill("<a>&;</a>");
        ill("<a>& </a>");
        ill("<a>&</a>");
        ill("<a>&");
        ill("<a>&#");
        ill("<a>&#6");
        ill("<a>&am");
        ill("<a>&ltx;</a>");
        ill("<a>x < y</a>");
        ill("<a><</a>");
        ill("<a><1/></a>");
    }

    private static void outermost() {
        ill("");
        ill(" ");
        ill("x");
        ill(" <a/>");
        ill("<a/> ");
        ill("x<a/>");
        ill("<a/>x");
        ill("<a/><b/>");
        ill("<a></a><b/>");
        ill("<a></a>&lt;");
        ill("&lt;<a/>");
        ill("<a/></a>");
    }

    private static String nested(int deep, String inmost) {
        return "<e v=\"1\"><h>" + "<x>".repeat(deep - 3) + inmost + "</x>".repeat(deep - 3)
            + "</h><b><t></t></b></e>";
    }

    private static void depth() {
        checks.due("20 deep", Checks.withPage(nested(20, "<y/>")).decode(), 0);
        checks.due("20 deep", Checks.withPage(nested(20, "<y></y><y>z</y>")).decode(), 0);
        ill(nested(21, "<y/>"));
        ill(nested(21, "<y></y>"));
        ill(nested(21, "<y>z</y><y/>"));
        ill("<a>".repeat(21) + "</a>".repeat(21));
        ill("<a>".repeat(160));
        well("<a>".repeat(20) + "</a>".repeat(20));
        ill("<a>".repeat(20) + "<a/>" + "</a>".repeat(20));
    }

    private static void manyElements() {
        well("<a>" + "<b/>".repeat(100) + "</a>");
        well("<a>" + "<b c=\"\"/>".repeat(40) + "</a>");
        ill("<b/>".repeat(100));
    }
}
