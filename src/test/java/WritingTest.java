import java.util.function.Consumer;

/** Promises 12 and 13: which objects are shared, and the page that is written. */
public final class WritingTest {
    private static final int LEAST = Integer.MIN_VALUE;
    private static final int MOST = Integer.MAX_VALUE;
    private static final Checks checks = new Checks();

    public static void main(String[] args) {
        pairs();
        numbers();
        texts();
        textsCharacterByCharacter();
        arraysOfNothing();
        arraysWithAllPatterns();
        arraysHoldingReferences();
        sharedByTwoSlots();
        theFirstIsSharedByOne();
        onlyReachedSlotsCount();
        rings();
        idsInTheOrderOfReferences();
        idsFoundInSharedElements();
        idsOfTwoDigits();
        idIsTheFirstAttribute();
        deepest();
        longest();
        longerAndShorterPages();
        writingChangesOnlyThePage();
        sharedOfNoObject();
        encodeOfNoObject();
        checks.end();
    }

    private static void written(Pages pages, int x, int wantShared, String wantBody) {
        String want = Reading.inBody(wantBody);
        checks.due("shared of " + wantBody, pages.shared(x), wantShared);
        checks.due("encode of " + wantBody, pages.encode(x), want.length());
        checks.due("length()", pages.length(), want.length());
        checks.due("page", pages.page(), want);
    }

    private static void pairs() {
        checks.sentence("a PAIR is <p>slot 0, slot 1</p>; a slot is <n/> for NOTHING");
        Pages pages = new Pages();
        pages.makePairs(2);
        written(pages, 0, 0, "<p><n/><n/></p>");
        pages.put(0, 1, 3);
        written(pages, 0, 0, "<p><n/><i>3</i></p>");
        pages.put(0, 0, 4);
        written(pages, 0, 0, "<p><i>4</i><i>3</i></p>");
        pages.link(0, 1, -1);
        written(pages, 0, 0, "<p><i>4</i><n/></p>");
        pages.link(0, 0, 1);
        pages.put(1, 0, 5);
        written(pages, 0, 0, "<p><p><i>5</i><n/></p><n/></p>");
        written(pages, 1, 0, "<p><i>5</i><n/></p>");
    }

    private static void numbers() {
        checks.sentence("<i>NUMBER</i> for an int (decimal, - if it is negative, no needless zeros)");
        writesNumber(0, "0");
        writesNumber(LEAST, "-2147483648");
        writesNumber(LEAST + 1, "-2147483647");
        writesNumber(MOST, "2147483647");
        int power = 1;
        for (int digits = 1; digits <= 10; digits++) {
            for (int number : new int[] {power - 1, power, power + 1, power + power, MOST - power}) {
                writesNumber(number, Integer.toString(number));
                writesNumber(-number, Integer.toString(-number));
            }
            power = digits < 10 ? power * 10 : power;
        }
    }

    private static void writesNumber(int number, String want) {
        Pages pages = new Pages();
        pages.makeArray(1);
        pages.put(0, 0, number);
        written(pages, 0, 0, "<a n=\"1\"><i>" + want + "</i></a>");
        pages.clear();
        checks.due("decode()", pages.decode(), 0);
        checks.due("the int that is read", pages.value(0, 0), number);
    }

    private static void texts() {
        checks.sentence("a TEXT is <t>characters</t> with &lt; &gt; &amp; for < > & and all others as they are");
        String[] texts = {"", "<>&\"'/", " ~a  #", "&amp;", "&&&&&&", "<<<<<<", ">>>>>>", "\"\"\"\"\"\"", "&#65;"};
        String[] rows = {"", "&lt;&gt;&amp;\"'/", " ~a  #", "&amp;amp;", "&amp;&amp;&amp;&amp;&amp;&amp;",
            "&lt;&lt;&lt;&lt;&lt;&lt;", "&gt;&gt;&gt;&gt;&gt;&gt;", "\"\"\"\"\"\"", "&amp;#65;"};
        for (int i = 0; i < texts.length; i++) {
            Pages pages = new Pages();
            pages.makeText(texts[i]);
            written(pages, 0, 0, "<t>" + rows[i] + "</t>");
            checks.due("decode()", pages.decode(), 1);
            checks.due("the TEXT that is read", pages.show(1), "T(" + texts[i] + ")");
        }
    }

    private static void textsCharacterByCharacter() {
        checks.sentence("&lt; &gt; &amp; for < > & and all others as they are");
        for (char c = 32; c <= 126; c++) {
            Pages pages = new Pages();
            pages.makeText("a" + c);
            written(pages, 0, 0, "<t>a" + (c == '<' ? "&lt;" : c == '>' ? "&gt;" : c == '&' ? "&amp;" : c) + "</t>");
            checks.due("decode()", pages.decode(), 1);
            checks.due("the TEXT that is read", pages.show(1), "T(a" + c + ")");
        }
    }

    private static void arraysOfNothing() {
        checks.sentence("the attribute o is left out when FIRST is 0 or there is no such slot");
        for (int size = 0; size <= 4; size++) {
            Pages pages = new Pages();
            pages.makeArray(size);
            written(pages, 0, 0, "<a n=\"" + size + "\"></a>");
        }
    }

    /** Each slot of each size holds an int or NOTHING; the NOTHINGs at both ends are not written. */
    private static void arraysWithAllPatterns() {
        checks.sentence("the slots from the first that does not hold NOTHING to the last such; FIRST is the first such slot");
        for (int size = 1; size <= 4; size++) {
            for (int pattern = 1; pattern < 1 << size; pattern++) {
                Pages pages = new Pages();
                pages.makeArray(size);
                StringBuilder slots = new StringBuilder();
                for (int k = 0; k < size; k++) {
                    boolean filled = (pattern >> k & 1) == 1;
                    slots.append(filled ? "<i>" + (k - 1) + "</i>" : "<n/>");
                    if (filled) {
                        pages.put(0, k, k - 1);
                    }
                }
                int first = Integer.numberOfTrailingZeros(pattern);
                String o = first == 0 ? "" : " o=\"" + first + "\"";
                String inside = slots.toString().replaceAll("^(<n/>)+|(<n/>)+$", "");
                written(pages, 0, 0, "<a n=\"" + size + "\"" + o + ">" + inside + "</a>");
                pages.decode();
                checks.due("the ARRAY that is read", pages.show(1), pages.show(0));
            }
        }
    }

    private static void arraysHoldingReferences() {
        checks.sentence("the slots from the first that does not hold NOTHING to the last such");
        Pages pages = new Pages();
        pages.makeArray(4);
        pages.makeArray(1);
        pages.link(0, 3, 1);
        written(pages, 0, 0, "<a n=\"4\" o=\"3\"><a n=\"1\"></a></a>");
        pages.link(0, 1, 0);
        written(pages, 0, 1, "<r h=\"1\"/><a id=\"1\" n=\"4\" o=\"1\"><r h=\"1\"/><n/><a n=\"1\"></a></a>");
        pages.put(0, 3, 0);
        written(pages, 0, 1, "<r h=\"1\"/><a id=\"1\" n=\"4\" o=\"1\"><r h=\"1\"/><n/><i>0</i></a>");
        pages.link(0, 3, -1);
        written(pages, 0, 1, "<r h=\"1\"/><a id=\"1\" n=\"4\" o=\"1\"><r h=\"1\"/></a>");
        pages.link(0, 1, -1);
        written(pages, 0, 0, "<a n=\"4\"></a>");
    }

    private static void sharedByTwoSlots() {
        checks.sentence("An object is SHARED when the slots of reached objects that refer to it are at least two");
        Pages one = new Pages();
        int pair = one.makePair();
        int text = one.makeText("q");
        one.link(pair, 0, text);
        written(one, pair, 0, "<p><t>q</t><n/></p>");
        one.link(pair, 1, text);
        written(one, pair, 1, "<p><r h=\"1\"/><r h=\"1\"/></p><t id=\"1\">q</t>");
        Pages two = new Pages();
        two.makePair();
        two.makeText("q");
        two.makeArray(2);
        two.link(0, 0, 1);
        two.link(0, 1, 2);
        written(two, 0, 0, "<p><t>q</t><a n=\"2\"></a></p>");
        two.link(2, 1, 1);
        written(two, 0, 1, "<p><r h=\"1\"/><a n=\"2\" o=\"1\"><r h=\"1\"/></a></p><t id=\"1\">q</t>");
        two.link(2, 0, 2);
        written(two, 0, 2,
            "<p><r h=\"1\"/><r h=\"2\"/></p><t id=\"1\">q</t><a id=\"2\" n=\"2\"><r h=\"2\"/><r h=\"1\"/></a>");
        Pages more = new Pages();
        more.makeArray(4);
        more.makePair();
        for (int k = 0; k < 4; k++) {
            more.link(0, k, 1);
        }
        written(more, 0, 1, "<a n=\"4\"><r h=\"1\"/><r h=\"1\"/><r h=\"1\"/><r h=\"1\"/></a><p id=\"1\"><n/><n/></p>");
        more.put(0, 1, 1);
        more.put(0, 2, 1);
        more.put(0, 3, 1);
        written(more, 0, 0, "<a n=\"4\"><p><n/><n/></p><i>1</i><i>1</i><i>1</i></a>");
    }

    private static void theFirstIsSharedByOne() {
        checks.sentence("or for x itself at least one");
        Pages pages = new Pages();
        pages.makePairs(2);
        pages.link(0, 0, 1);
        written(pages, 0, 0, "<p><p><n/><n/></p><n/></p>");
        pages.link(1, 1, 0);
        written(pages, 0, 1, "<r h=\"1\"/><p id=\"1\"><p><n/><r h=\"1\"/></p><n/></p>");
        pages.link(1, 1, 1);
        written(pages, 0, 1, "<p><r h=\"1\"/><n/></p><p id=\"1\"><n/><r h=\"1\"/></p>");
        written(pages, 1, 1, "<r h=\"1\"/><p id=\"1\"><n/><r h=\"1\"/></p>");
        pages.link(1, 1, -1);
        pages.link(0, 1, 0);
        written(pages, 0, 1, "<r h=\"1\"/><p id=\"1\"><p><n/><n/></p><r h=\"1\"/></p>");
        pages.link(0, 0, 0);
        written(pages, 0, 1, "<r h=\"1\"/><p id=\"1\"><r h=\"1\"/><r h=\"1\"/></p>");
    }

    private static void onlyReachedSlotsCount() {
        checks.sentence("REACHED are x and all that slots of reached objects refer to.");
        Pages pages = new Pages();
        int text = pages.makeText("z");
        int one = pages.makePair();
        int two = pages.makePair();
        pages.link(one, 0, text);
        pages.link(two, 0, text);
        pages.link(two, 1, one);
        written(pages, one, 0, "<p><t>z</t><n/></p>");
        written(pages, text, 0, "<t>z</t>");
        written(pages, two, 1, "<p><r h=\"1\"/><p><r h=\"1\"/><n/></p></p><t id=\"1\">z</t>");
    }

    private static void rings() {
        checks.sentence("a reference is <r h=\"ID\"/> to a shared object, and the object's element to another");
        Pages pages = new Pages();
        int one = pages.makePair();
        int two = pages.makeArray(3);
        pages.link(one, 0, one);
        written(pages, one, 1, "<r h=\"1\"/><p id=\"1\"><r h=\"1\"/><n/></p>");
        pages.link(one, 0, two);
        pages.link(two, 2, one);
        written(pages, one, 1, "<r h=\"1\"/><p id=\"1\"><a n=\"3\" o=\"2\"><r h=\"1\"/></a><n/></p>");
        int outside = pages.makePair();
        pages.link(outside, 1, one);
        written(pages, outside, 1,
            "<p><n/><r h=\"1\"/></p><p id=\"1\"><a n=\"3\" o=\"2\"><r h=\"1\"/></a><n/></p>");
        Pages ring = new Pages();
        ring.makePairs(3);
        for (int x = 0; x < 3; x++) {
            ring.link(x, 1, (x + 1) % 3);
        }
        written(ring, 1, 1, "<r h=\"1\"/><p id=\"1\"><n/><p><n/><p><n/><r h=\"1\"/></p></p></p>");
        checks.due("decode()", ring.decode(), 3);
        checks.due("the ring that is read", ring.graph(), "P[- @1] P[- @2] P[- @0] P[- @4] P[- @5] P[- @3]");
        checks.due("alike", ring.alike(1, 3), true);
    }

    private static void idsInTheOrderOfReferences() {
        checks.sentence("Shared objects get the ids 1, 2, .. in the order in which the first r to each stands in the page.");
        Pages pages = new Pages();
        pages.makePairs(5);
        pages.link(0, 0, 3);
        pages.link(0, 1, 2);
        pages.link(2, 0, 4);
        pages.link(2, 1, 3);
        pages.link(3, 0, 1);
        pages.link(3, 1, 4);
        pages.link(1, 0, 4);
        pages.link(1, 1, 1);
        // Object 3 is 1 by the slot of 0, then 4 comes in the element of 2, then 1 in that of 3.
        written(pages, 0, 3, "<p><r h=\"1\"/><p><r h=\"2\"/><r h=\"1\"/></p></p>"
            + "<p id=\"1\"><r h=\"3\"/><r h=\"2\"/></p>"
            + "<p id=\"2\"><n/><n/></p>"
            + "<p id=\"3\"><r h=\"2\"/><r h=\"3\"/></p>");
        Pages turned = new Pages();
        turned.makeArray(4);
        turned.makeText("a");
        turned.makeText("b");
        for (int k = 0; k < 4; k++) {
            turned.link(0, k, 2 - k % 2);
        }
        written(turned, 0, 2, "<a n=\"4\"><r h=\"1\"/><r h=\"2\"/><r h=\"1\"/><r h=\"2\"/></a>"
            + "<t id=\"1\">b</t><t id=\"2\">a</t>");
    }

    private static void idsFoundInSharedElements() {
        checks.sentence("then the elements of all shared objects in the order of their ids");
        Pages pages = new Pages();
        pages.makePairs(4);
        pages.link(0, 0, 1);
        pages.link(0, 1, 1);
        pages.link(1, 0, 3);
        pages.link(1, 1, 2);
        pages.link(3, 0, 2);
        pages.link(2, 0, 3);
        // 2 and 3 are referred to by slots of shared objects alone.
        written(pages, 0, 3, "<p><r h=\"1\"/><r h=\"1\"/></p><p id=\"1\"><r h=\"2\"/><r h=\"3\"/></p>"
            + "<p id=\"2\"><r h=\"3\"/><n/></p><p id=\"3\"><r h=\"2\"/><n/></p>");
    }

    private static void idsOfTwoDigits() {
        checks.sentence("Shared objects get the ids 1, 2, ..");
        StringBuilder want = new StringBuilder("<r h=\"1\"/>");
        for (int x = 0; x < 16; x++) {
            String next = "<r h=\"" + ((x + 1) % 16 + 1) + "\"/>";
            want.append("<p id=\"").append(x + 1).append("\">").append(next).append(next).append("</p>");
        }
        writtenLong(WritingTest::ringOfSixteen, 16, Reading.inBody(want.toString()));
    }

    private static void ringOfSixteen(Pages pages) {
        pages.makePairs(16);
        for (int x = 0; x < 16; x++) {
            pages.link(x, 0, (x + 1) % 16);
            pages.link(x, 1, (x + 1) % 16);
        }
    }

    /** No object is promised to tell so long a page whole: several tell a part each. */
    private static void writtenLong(Consumer<Pages> maker, int wantShared, String want) {
        for (int start = 0; start < want.length(); start += 400) {
            Pages pages = Pages.after(maker);
            checks.due("shared(0)", pages.shared(0), wantShared);
            checks.due("encode(0)", pages.encode(0), want.length());
            for (int p = start; p < start + 400 && p < want.length(); p++) {
                checks.due("charAt(" + p + ")", pages.charAt(p), want.charAt(p));
            }
            pages.clear();
            checks.due("decode()", pages.decode(), 0);
            checks.due("objects()", pages.objects(), 16);
            checks.due("length()", pages.length(), want.length());
        }
    }

    private static void idIsTheFirstAttribute() {
        checks.sentence("The element of a shared object has id=\"ID\" as its first attribute, as in <p id=\"3\">.");
        Pages pages = new Pages();
        pages.makeArray(3);
        pages.makeArray(4);
        pages.makeText("a&");
        pages.makePair();
        pages.put(1, 2, 1);
        for (int k = 0; k < 3; k++) {
            pages.link(0, k, k + 1);
        }
        pages.link(3, 0, 1);
        pages.link(3, 1, 2);
        pages.link(1, 3, 3);
        written(pages, 0, 3, "<a n=\"3\"><r h=\"1\"/><r h=\"2\"/><r h=\"3\"/></a>"
            + "<a id=\"1\" n=\"4\" o=\"2\"><i>1</i><r h=\"3\"/></a><t id=\"2\">a&amp;</t>"
            + "<p id=\"3\"><r h=\"1\"/><r h=\"2\"/></p>");
    }

    private static void deepest() {
        checks.sentence("the object's element to another");
        Pages pages = new Pages();
        StringBuilder want = new StringBuilder("<p><n/><i>1</i></p>");
        pages.makePairs(16);
        for (int x = 1; x < 16; x++) {
            pages.link(x - 1, 0, x);
            want.insert(0, "<p>").append("<n/></p>");
        }
        pages.put(15, 1, 1);
        written(pages, 0, 0, want.toString());
        pages.link(15, 1, 0);
        checks.due("shared(0)", pages.shared(0), 1);
        checks.due("encode(0)", pages.encode(0) > 0, true);
        pages.clear();
        checks.due("decode()", pages.decode(), 0);
        checks.due("objects()", pages.objects(), 16);
        checks.due("value(15, 1)", pages.value(15, 1), 0);
        checks.due("holds(15, 1)", pages.holds(15, 1), 2);
    }

    private static void longest() {
        checks.sentence("Writes from x (the page always has room).");
        checks.due("the length that is due", Longest.page().length(), Longest.LENGTH);
        writtenLong(Longest::make, 16, Longest.page());
        Pages pages = new Pages();
        Longest.make(pages);
        pages.encode(0);
        pages.clear();
        pages.decode();
        checks.due("shared(0) of what is read", pages.shared(0), 16);
        for (int x = 0; x < 16; x++) {
            for (int k = 0; k < 4; k++) {
                int target = Longest.target(x, k);
                checks.due("holds(" + x + ", " + k + ")", pages.holds(x, k), target < 0 ? 1 : 2);
                checks.due("value(" + x + ", " + k + ")", pages.value(x, k), target < 0 ? LEAST : target);
            }
        }
    }

    private static void longerAndShorterPages() {
        checks.sentence("The page becomes .. Answers the length of the page");
        Pages pages = new Pages();
        pages.makePairs(3);
        pages.link(0, 0, 1);
        written(pages, 0, 0, "<p><p><n/><n/></p><n/></p>");
        written(pages, 1, 0, "<p><n/><n/></p>");
        checks.due("charAt behind the shorter page", pages.charAt(35), -1);
        written(pages, 0, 0, "<p><p><n/><n/></p><n/></p>");
        pages.cut(7);
        written(pages, 2, 0, "<p><n/><n/></p>");
        pages.feed('x');
        written(pages, 2, 0, "<p><n/><n/></p>");
    }

    private static Pages some() {
        return Pages.after(pages -> {
            pages.makePair();
            pages.makeText("so");
            pages.makeArray(4);
            pages.link(0, 0, 2);
            pages.link(0, 1, 1);
            pages.link(2, 1, 0);
            pages.put(2, 2, -9);
            pages.understand(8, true);
            pages.feedAll("some page");
        });
    }

    private static void writingChangesOnlyThePage() {
        checks.sentence("Writes from x");
        for (int x = 0; x < 3; x++) {
            Pages pages = some();
            pages.encode(x);
            checks.due("graph", pages.graph(), "P[@2 @1] T(so) A[- @0 -9 -]");
            checks.due("keys", pages.takeKeys(), "8");
        }
    }

    private static void sharedOfNoObject() {
        checks.sentence("How many objects are shared when one writes from x (x itself, if it is); -1 when there is no object x.");
        checks.changesNothing("shared(0)", WritingTest::some, p -> p.shared(0), 1);
        checks.changesNothing("shared(1)", WritingTest::some, p -> p.shared(1), 0);
        checks.changesNothing("shared(2)", WritingTest::some, p -> p.shared(2), 1);
        for (int x : new int[] {LEAST, -2, -1, 3, 4, 15, 16, MOST}) {
            checks.changesNothing("shared(" + x + ")", WritingTest::some, p -> p.shared(x), -1);
        }
        checks.changesNothing("shared(0) of no objects", Pages::new, p -> p.shared(0), -1);
    }

    private static void encodeOfNoObject() {
        checks.sentence("-1 (the page stays) when there is no object x.");
        for (int x : new int[] {LEAST, -2, -1, 3, 4, 15, 16, MOST}) {
            checks.changesNothing("encode(" + x + ")", WritingTest::some, p -> p.encode(x), -1);
        }
        checks.changesNothing("encode(0) of no objects", Pages::new, p -> p.encode(0), -1);
        Pages removed = some();
        removed.clear();
        checks.due("encode(0) of a removed one", removed.encode(0), -1);
        checks.due("page", removed.page(), "some page");
    }
}
