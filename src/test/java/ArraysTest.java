import java.util.Arrays;

/** Promise 14, the fault CONTENT: the element a, its size, and the slots that its children are for. */
public final class ArraysTest {
    private static final String[] EMPTY = {"A[]", "A[-]", "A[- -]", "A[- - -]", "A[- - - -]"};
    private static final Checks checks = new Checks();
    private static final Reading reading = new Reading(checks);

    public static void main(String[] args) {
        sizes();
        sizeMustStand();
        offsets();
        orderOfAttributes();
        textOfAnArray();
        slotsWithoutAt();
        slotsFromAnOffset();
        slotsWithAt();
        slotAfterOneWithAt();
        slotsAreLessThanTheSize();
        noTwoForTheSameSlot();
        slotsWithoutAChild();
        childrenOfAllKinds();
        arraysInArrays();
        allSizesOffsetsAndSlots();
        checks.end();
    }

    private static void sizes() {
        checks.sentence("attribute n must stand, 0 .. 4, the number of slots");
        for (int n = 0; n <= 99; n++) {
            String two = Integer.toString(100 + n).substring(1);
            for (String value : new String[] {Integer.toString(n), two}) {
                if (n <= 4) {
                    reading.content("<a n=\"" + value + "\"/>", 0, EMPTY[n]);
                } else {
                    reading.contentFault("<a n=\"" + value + "\"/>");
                }
            }
        }
        reading.contentFault("<a n=\"004\"/>");
        reading.contentFault("<a n=\"-1\"/>");
        reading.contentFault("<a n=\"\"/>");
    }

    private static void sizeMustStand() {
        checks.sentence("attribute n must stand");
        reading.content("<a n=\"0\"/>", 0, "A[]");
        reading.contentFault("<a/>");
        reading.contentFault("<a></a>");
        reading.contentFault("<a o=\"0\"/>");
        reading.contentFault("<a id=\"1\"/>");
        reading.contentFault("<a id=\"1\" o=\"0\"/>");
        reading.contentFault("<p><a/><n/></p>");
        reading.contentFault("<a n=\"1\"><a at=\"0\"/></a>");
    }

    private static void offsets() {
        checks.sentence("and o, which is at most n");
        for (int n = 0; n <= 4; n++) {
            for (int o = 0; o <= 99; o++) {
                if (o <= n) {
                    reading.content("<a n=\"" + n + "\" o=\"" + o + "\"/>", 0, EMPTY[n]);
                    reading.content("<a n=\"" + n + "\" o=\"0" + o + "\"></a>", 0, EMPTY[n]);
                } else if (o <= 12 || o % 16 == 0 || o == 99) {
                    reading.contentFault("<a n=\"" + n + "\" o=\"" + o + "\"/>");
                }
            }
        }
        // It may stand with children that do not look at it, and must keep to its bound there too.
        reading.content("<a n=\"2\" o=\"2\"><i at=\"0\">1</i></a>", 0, "A[1 -]");
        reading.contentFault("<a n=\"2\" o=\"3\"><i at=\"0\">1</i></a>");
    }

    private static void orderOfAttributes() {
        checks.sentence("attribute n must stand .. id may stand, and o");
        for (String attributes : new String[] {"id=\"7\" n=\"3\" o=\"1\"", "id=\"7\" o=\"1\" n=\"3\"",
            "n=\"3\" id=\"7\" o=\"1\"",
            "n=\"3\" o=\"1\" id=\"7\"", "o=\"1\" id=\"7\" n=\"3\"", "o=\"1\" n=\"3\" id=\"7\""}) {
            reading.content("<a " + attributes + "><r h=\"7\"/></a>", 0, "A[- @0 -]");
        }
    }

    private static void textOfAnArray() {
        checks.sentence("a (an ARRAY): no text");
        for (String text : new String[] {" ", "x", "&#32;", "&gt;", "0"}) {
            reading.contentFault("<a n=\"0\">" + text + "</a>");
            reading.contentFault("<a n=\"3\">" + text + "</a>");
            reading.contentFault("<a n=\"3\">" + text + "<n/></a>");
            reading.contentFault("<a n=\"3\"><n/>" + text + "</a>");
            reading.contentFault("<a n=\"3\"><n/>" + text + "<n/></a>");
        }
    }

    private static void slotsWithoutAt() {
        checks.sentence("without at for the slot one beyond that of the child before it, and for slot o (0 without o) "
            + "when it is the first child");
        reading.content("<a n=\"4\"><i>1</i></a>", 0, "A[1 - - -]");
        reading.content("<a n=\"4\"><i>1</i><i>2</i></a>", 0, "A[1 2 - -]");
        reading.content("<a n=\"4\"><i>1</i><i>2</i><i>3</i><i>4</i></a>", 0, "A[1 2 3 4]");
        reading.content("<a n=\"3\"><i>1</i><n/><i>3</i></a>", 0, "A[1 - 3]");
        reading.content("<a n=\"2\"><n/><n/></a>", 0, "A[- -]");
        reading.content("<a n=\"1\"><i>1</i></a>", 0, "A[1]");
    }

    private static void slotsFromAnOffset() {
        checks.sentence("for slot o (0 without o) when it is the first child");
        reading.content("<a n=\"4\" o=\"0\"><i>1</i></a>", 0, "A[1 - - -]");
        reading.content("<a n=\"4\" o=\"1\"><i>1</i></a>", 0, "A[- 1 - -]");
        reading.content("<a n=\"4\" o=\"3\"><i>1</i></a>", 0, "A[- - - 1]");
        reading.content("<a n=\"4\" o=\"02\"><i>1</i><i>2</i></a>", 0, "A[- - 1 2]");
        reading.content("<a n=\"4\" o=\"1\"><n/><i>2</i></a>", 0, "A[- - 2 -]");
        reading.contentFault("<a n=\"4\" o=\"4\"><i>1</i></a>");
        reading.contentFault("<a n=\"4\" o=\"3\"><i>1</i><i>2</i></a>");
        reading.contentFault("<a n=\"0\" o=\"0\"><n/></a>");
    }

    private static void slotsWithAt() {
        checks.sentence("a child is for the slot that its at says");
        for (int at = 0; at < 4; at++) {
            String want = EMPTY[4].substring(0, 2 + 2 * at) + "5" + EMPTY[4].substring(3 + 2 * at);
            reading.content("<a n=\"4\"><i at=\"" + at + "\">5</i></a>", 0, want);
            reading.content("<a n=\"4\"><i at=\"0" + at + "\">5</i></a>", 0, want);
            reading.content("<a n=\"4\" o=\"4\"><i at=\"" + at + "\">5</i></a>", 0, want);
            reading.content("<a n=\"4\" o=\"2\"><i at=\"" + at + "\">5</i></a>", 0, want);
        }
        reading.content("<a n=\"4\"><i at=\"3\">1</i><i at=\"0\">2</i><i at=\"2\">3</i><i at=\"1\">4</i></a>", 0, "A[2 4 3 1]");
        reading.content("<a n=\"2\"><n at=\"1\"/></a>", 0, "A[- -]");
    }

    private static void slotAfterOneWithAt() {
        checks.sentence("without at for the slot one beyond that of the child before it");
        reading.content("<a n=\"4\"><i>1</i><i at=\"2\">2</i><i>3</i></a>", 0, "A[1 - 2 3]");
        reading.content("<a n=\"4\"><i at=\"3\">1</i><i at=\"0\">2</i><i>3</i></a>", 0, "A[2 3 - 1]");
        reading.content("<a n=\"4\" o=\"3\"><i at=\"1\">1</i><i>2</i></a>", 0, "A[- 1 2 -]");
        reading.content("<a n=\"4\" o=\"2\"><i>1</i><i at=\"0\">2</i><i>3</i></a>", 0, "A[2 3 1 -]");
        reading.content("<a n=\"4\"><n at=\"1\"/><i>2</i></a>", 0, "A[- - 2 -]");
        reading.contentFault("<a n=\"4\"><i at=\"3\">1</i><i>2</i></a>");
        reading.contentFault("<a n=\"4\"><i at=\"1\">1</i><i at=\"0\">2</i><i>3</i></a>");
    }

    private static void slotsAreLessThanTheSize() {
        checks.sentence("All these slots are less than n");
        for (int n = 0; n <= 4; n++) {
            for (int children = 0; children <= 6; children++) {
                if (children <= n) {
                    reading.content("<a n=\"" + n + "\">" + "<n/>".repeat(children) + "</a>", 0, EMPTY[n]);
                } else {
                    reading.contentFault("<a n=\"" + n + "\">" + "<n/>".repeat(children) + "</a>");
                }
            }
            for (int at = 0; at <= 99; at++) {
                if (at < n) {
                    reading.content("<a n=\"" + n + "\"><n at=\"" + at + "\"/></a>", 0, EMPTY[n]);
                } else {
                    reading.contentFault("<a n=\"" + n + "\"><n at=\"" + at + "\"/></a>");
                }
            }
        }
    }

    private static void noTwoForTheSameSlot() {
        checks.sentence("no two children are for the same slot");
        for (int k = 0; k < 4; k++) {
            String one = "<i at=\"" + k + "\">1</i>";
            reading.contentFault("<a n=\"4\">" + one + one + "</a>");
            reading.contentFault("<a n=\"4\">" + one + "<n at=\"0" + k + "\"/></a>");
            reading.contentFault("<a n=\"4\"><n at=\"" + k + "\"/>" + one + "</a>");
            reading.contentFault("<a n=\"4\"><n at=\"" + k + "\"/><n at=\"" + k + "\"/></a>");
            reading.contentFault("<a n=\"4\" o=\"" + k + "\"><n/>" + one + "</a>");
            reading.contentFault("<a n=\"4\"><n/><n/><n/><n/>" + one + "</a>");
        }
        reading.contentFault("<a n=\"3\"><n/><n at=\"0\"/></a>");
        reading.contentFault("<a n=\"3\"><i at=\"1\">1</i><i at=\"0\">1</i><i>1</i></a>");
        reading.contentFault("<a n=\"4\" o=\"1\"><i>1</i><i at=\"0\">1</i><i>1</i></a>");
    }

    private static void slotsWithoutAChild() {
        checks.sentence("Slots without a child hold NOTHING.");
        reading.content("<a n=\"4\"/>", 0, "A[- - - -]");
        reading.content("<a n=\"4\" o=\"1\"><i>0</i></a>", 0, "A[- 0 - -]");
        Pages pages = new Pages();
        pages.makeArray(4);
        for (int k = 0; k < 4; k++) {
            pages.put(0, k, 9);
        }
        pages.clear();
        pages.feedAll(Reading.inBody("<a n=\"4\"><i at=\"2\">1</i></a>"));
        checks.due("decode()", pages.decode(), 0);
        checks.due("graph", pages.graph(), "A[- - 1 -]");
    }

    private static void childrenOfAllKinds() {
        checks.sentence("Children, each one of n, i, p, a, t, r, and each may bear an attribute at beside its own");
        reading.content("<a n=\"4\"><t at=\"1\">x</t><r at=\"0\" h=\"1\"/><p at=\"3\" id=\"1\"><n/><n/></p>"
            + "<a at=\"2\" n=\"1\" o=\"1\"/></a>", 0, "A[@2 @1 @3 @2] T(x) P[- -] A[-]");
        reading.content("<a n=\"4\" id=\"2\"><n/><r h=\"2\"/><i>4</i><t>y</t></a>", 0, "A[- @0 4 @1] T(y)");
        for (String child : new String[] {"<b/>", "<h/>", "<e/>", "<x/>", "<x at=\"1\"/>", "<nn/>"}) {
            reading.contentFault("<a n=\"3\">" + child + "</a>");
            reading.contentFault("<a n=\"3\"><n/>" + child + "</a>");
        }
    }

    private static void arraysInArrays() {
        checks.sentence("a child is for the slot that its at says, or without at for the slot one beyond");
        reading.content("<a n=\"4\"><i>1</i><a n=\"4\" o=\"2\"><i>5</i></a><i>3</i></a>", 0, "A[1 @1 3 -] A[- - 5 -]");
        reading.content("<a n=\"2\"><a at=\"1\" n=\"2\"><i at=\"0\">5</i></a><i at=\"0\">6</i></a>", 0, "A[6 @1] A[5 -]");
        reading.content("<a n=\"1\"><a n=\"1\"><a n=\"1\"><i>1</i></a></a></a>", 0, "A[@1] A[@2] A[1]");
        reading.contentFault("<a n=\"1\"><a n=\"1\"><p at=\"0\"><n at=\"0\"/><n/></p></a></a>");
        reading.contentFault("<a n=\"4\"><a n=\"1\"><i>1</i><i>2</i></a></a>");
        reading.contentFault("<a n=\"1\"><a n=\"4\"><i>1</i></a><i>2</i></a>");
    }

    /** Every n and o with up to three children, each with every at or none. */
    private static void allSizesOffsetsAndSlots() {
        checks.sentence("All these slots are less than n, and no two children are for the same slot.");
        for (int n = 0; n <= 4; n++) {
            for (int o = -1; o <= 5; o++) {
                readsArray(n, o);
                for (int i = -1; i <= 5; i++) {
                    readsArray(n, o, i);
                    for (int j = -1; j <= 5; j++) {
                        readsArray(n, o, i, j);
                        for (int k = -1; k <= 5; k++) {
                            readsArray(n, o, i, j, k);
                        }
                    }
                }
            }
        }
    }

    /** An o or an at that is -1 does not stand. */
    private static void readsArray(int n, int o, int... ats) {
        StringBuilder page = new StringBuilder("<a n=\"" + n + "\"" + (o < 0 ? "" : " o=\"" + o + "\"") + ">");
        String[] slots = {"-", "-", "-", "-"};
        boolean good = o <= n;
        int next = Math.max(o, 0);
        for (int i = 0; i < ats.length; i++) {
            page.append("<i").append(ats[i] < 0 ? "" : " at=\"" + ats[i] + "\"").append(">").append(i).append("</i>");
            int slot = ats[i] < 0 ? next : ats[i];
            good = good && slot < n && slots[slot].equals("-");
            if (good) {
                slots[slot] = Integer.toString(i);
            }
            next = slot + 1;
        }
        Pages pages = Pages.withPage(Reading.inBody(page.append("</a>").toString()));
        checks.due(page.toString(), pages.decode(), good ? 0 : GraphPages.CONTENT);
        String array = "A[" + String.join(" ", Arrays.copyOf(slots, n)) + "]";
        checks.due("graph of " + page, pages.graph(), good ? array : "");
    }
}
