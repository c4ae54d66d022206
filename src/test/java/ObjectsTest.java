/** Promises 1 to 10 and 15: objects are made, filled, looked at and removed. */
public final class ObjectsTest {
    private static final int LEAST = Integer.MIN_VALUE;
    private static final int MOST = Integer.MAX_VALUE;
    private static final Checks checks = new Checks();

    public static void main(String[] args) {
        newObject();
        newObjectsAreApart();
        numbers();
        atMostSixteen();
        sizeOfAPair();
        sizesOfArrays();
        sizeOfAText();
        kindsToMake();
        slotsAtFirst();
        typeAppends();
        typeCodes();
        typeSix();
        typeToTextsOnly();
        putReplaces();
        putSlots();
        linkReplaces();
        linkNothing();
        linkSlots();
        linkTargets();
        objects();
        kind();
        size();
        holds();
        holdsSlotsOnly();
        value();
        valueOfNone();
        valuesOfNeighbours();
        clear();
        clearKeepsPageAndKeys();
        clearLeavesNothing();
        checks.end();
    }

    /** PAIR 0, ARRAYs 1 to 5 of 0 to 4 slots, TEXT 6 of no and TEXT 7 of six characters. */
    private static Pages oneOfEach() {
        return Pages.after(pages -> {
            pages.makePair();
            for (int size = 0; size <= 4; size++) {
                pages.makeArray(size);
            }
            pages.makeText("");
            pages.makeText("abcdef");
            pages.link(0, 1, 7);
            pages.put(5, 3, 8);
            pages.understand(31, true);
            pages.feedAll("page");
        });
    }

    private static Pages sixteen() {
        return Pages.after(pages -> {
            pages.makePairs(14);
            pages.makeArray(1);
            pages.makeText("a");
        });
    }

    private static int slotsOf(int x) {
        return x == 0 ? 2 : x <= 5 ? x - 1 : 0;
    }

    // Promise 1

    private static void newObject() {
        checks.sentence("No objects, an empty page, no key understood.");
        Pages pages = new Pages();
        checks.due("objects()", pages.objects(), 0);
        checks.due("kind(0)", pages.kind(0), -1);
        checks.due("length()", pages.length(), 0);
        checks.due("charAt(0)", pages.charAt(0), -1);
        checks.due("decode()", pages.decode(), GraphPages.FORM);
        checks.due("keys", pages.takeKeys(), "");
        checks.due("make(2, 0)", pages.make(2, 0), 0);
    }

    private static void newObjectsAreApart() {
        checks.sentence("No objects, an empty page, no key understood.");
        Pages one = new Pages();
        Pages other = new Pages();
        one.makePair();
        one.feed('x');
        one.understand(3, true);
        checks.due("objects() of another", other.objects(), 0);
        checks.due("length() of another", other.length(), 0);
        checks.due("keys of another", other.takeKeys(), "");
        checks.due("keys", one.takeKeys(), "3");
    }

    // Promise 2

    private static void numbers() {
        checks.sentence("OBJECTS have numbers 0, 1, .. in the order in which they came to be");
        Pages pages = new Pages();
        for (int x = 0; x < 16; x++) {
            checks.due("make(" + x % 3 + ", 1)", pages.make(x % 3, 1), x);
        }
        checks.due("graph", pages.graph(), "P[- -] A[-] T() P[- -] A[-] T() P[- -] A[-] T() P[- -] A[-] T() "
            + "P[- -] A[-] T() P[- -]");
        Pages refusing = new Pages();
        refusing.make(3, 0);
        refusing.make(1, 5);
        checks.due("make after refused ones", refusing.make(0, 0), 0);
        refusing.make(-1, 0);
        checks.due("make after one more", refusing.make(2, 0), 1);
    }

    private static void atMostSixteen() {
        checks.sentence("there are at most 16");
        for (int kind = 0; kind <= 2; kind++) {
            int k = kind;
            Pages fifteen = new Pages();
            fifteen.makePairs(15);
            checks.due("make of a sixteenth", fifteen.make(k, 4), 15);
            checks.changesNothing("make(" + k + ", 4) of a seventeenth", ObjectsTest::sixteen, p -> p.make(k, 4), -1);
        }
        checks.due("link to the last", sixteen().link(0, 0, 15), true);
        checks.due("put into the last but one", sixteen().put(14, 0, 5), true);
        checks.refused("link beyond the last", ObjectsTest::sixteen, p -> p.link(0, 0, 16));
    }

    private static void sizeOfAPair() {
        checks.sentence("a PAIR for kind 0 (size is not looked at)");
        for (int size : new int[] {LEAST, -1, 0, 1, 2, 3, 4, 5, MOST}) {
            Pages pages = new Pages();
            checks.due("make(0, " + size + ")", pages.make(0, size), 0);
            checks.due("graph", pages.graph(), "P[- -]");
        }
    }

    private static void sizesOfArrays() {
        checks.sentence("an ARRAY of size slots for kind 1 .. -1 when .. an ARRAY's size is not 0 .. 4");
        String[] arrays = {"A[]", "A[-]", "A[- -]", "A[- - -]", "A[- - - -]"};
        for (int size = 0; size <= 4; size++) {
            Pages pages = new Pages();
            checks.due("make(1, " + size + ")", pages.make(1, size), 0);
            checks.due("graph", pages.graph(), arrays[size]);
        }
        for (int size : new int[] {LEAST, -2, -1, 5, 6, 16, MOST}) {
            checks.changesNothing("make(1, " + size + ")", ObjectsTest::oneOfEach, p -> p.make(1, size), -1);
        }
    }

    private static void sizeOfAText() {
        checks.sentence("an empty TEXT for kind 2 (size is not looked at)");
        for (int size : new int[] {LEAST, -1, 0, 1, 4, 5, 6, 7, MOST}) {
            Pages pages = new Pages();
            checks.due("make(2, " + size + ")", pages.make(2, size), 0);
            checks.due("graph", pages.graph(), "T()");
        }
    }

    private static void kindsToMake() {
        checks.sentence("-1 when kind is none of these");
        for (int kind : new int[] {LEAST, -2, -1, 3, 4, 256, MOST}) {
            checks.changesNothing("make(" + kind + ", 2)", ObjectsTest::oneOfEach, p -> p.make(kind, 2), -1);
        }
    }

    private static void slotsAtFirst() {
        checks.sentence("A slot holds NOTHING (at first)");
        Pages pages = oneOfEach();
        pages.makePair();
        pages.makeArray(4);
        for (int x = 8; x <= 9; x++) {
            for (int k = 0; k < (x == 8 ? 2 : 4); k++) {
                checks.due("holds(" + x + ", " + k + ")", pages.holds(x, k), 0);
                checks.due("value(" + x + ", " + k + ")", pages.value(x, k), 0);
            }
        }
    }

    // Promise 3

    private static void typeAppends() {
        checks.sentence("Appends a character to the TEXT x and answers true");
        Pages pages = new Pages();
        pages.makeText("x");
        pages.makeText("");
        pages.makeText("y");
        for (int n = 0; n < 6; n++) {
            checks.due("type(1, " + "fedcba".charAt(n) + ")", pages.type(1, "fedcba".charAt(n)), true);
            checks.due("graph", pages.graph(), "T(x) T(" + "fedcba".substring(0, n + 1) + ") T(y)");
        }
    }

    private static void typeCodes() {
        checks.sentence("false when .. c is not 32 .. 126");
        for (int code = 32; code <= 126; code++) {
            Pages pages = Pages.after(p -> p.makeText("a"));
            checks.due("type(0, (char) " + code + ")", pages.type(0, (char) code), true);
            checks.due("size(0)", pages.size(0), 2);
            checks.due("value(0, 1)", pages.value(0, 1), code);
        }
        Pages pages = Pages.after(p -> p.makeText("a"));
        for (int code = 0; code <= 65535; code++) {
            if (pages.callsLeft() < 20) {
                checks.due("graph", pages.graph(), "T(a)");
                pages = Pages.after(p -> p.makeText("a"));
            }
            if (code < 32 || code > 126) {
                checks.due("type(0, (char) " + code + ")", pages.type(0, (char) code), false);
            }
        }
        checks.due("graph", pages.graph(), "T(a)");
        for (int code : new int[] {31, 127}) {
            checks.refused("type(6, (char) " + code + ")", ObjectsTest::oneOfEach, p -> p.type(6, (char) code));
        }
    }

    private static void typeSix() {
        checks.sentence("false when .. it has 6 already");
        Pages pages = Pages.after(p -> p.makeText("abcde"));
        checks.due("type of the sixth", pages.type(0, 'f'), true);
        checks.due("graph", pages.graph(), "T(abcdef)");
        checks.refused("type of a seventh", ObjectsTest::oneOfEach, p -> p.type(7, 'g'));
        Pages neighbours = Pages.after(p -> p.makeText("abcdef"));
        neighbours.makeText("");
        neighbours.type(0, 'g');
        checks.due("the next TEXT", neighbours.show(1), "T()");
        neighbours.type(1, 'h');
        checks.due("graph", neighbours.graph(), "T(abcdef) T(h)");
    }

    private static void typeToTextsOnly() {
        checks.sentence("false when x is not the number of a TEXT");
        for (int x : new int[] {LEAST, -2, -1, 0, 1, 2, 3, 4, 5, 8, 9, 16, MOST}) {
            checks.refused("type(" + x + ", a)", ObjectsTest::oneOfEach, p -> p.type(x, 'a'));
        }
        checks.due("type(6, a)", oneOfEach().type(6, 'a'), true);
    }

    // Promise 4

    private static void putReplaces() {
        checks.sentence("Slot k of object x holds the int v from now on.");
        for (int v : new int[] {LEAST, LEAST + 1, -1, 0, 1, 7, MOST}) {
            Pages pages = new Pages();
            pages.makePair();
            pages.makeArray(3);
            pages.put(1, 0, 5);
            pages.link(1, 1, 0);
            for (int k = 0; k < 3; k++) {
                checks.due("put(1, " + k + ", " + v + ")", pages.put(1, k, v), true);
                checks.due("holds(1, " + k + ")", pages.holds(1, k), 1);
                checks.due("value(1, " + k + ")", pages.value(1, k), v);
            }
            checks.due("graph", pages.graph(), "P[- -] A[" + v + " " + v + " " + v + "]");
        }
        Pages pages = new Pages();
        pages.makeArray(4);
        pages.makeArray(4);
        pages.put(0, 3, 1);
        pages.put(1, 0, 2);
        checks.due("neighbours stay", pages.graph(), "A[- - - 1] A[2 - - -]");
    }

    private static void putSlots() {
        checks.sentence("Answers whether there is such a slot.");
        for (int x = 0; x <= 7; x++) {
            int object = x;
            for (int k = 0; k < slotsOf(x); k++) {
                checks.due("put(" + x + ", " + k + ", 9)", oneOfEach().put(x, k, 9), true);
            }
            for (int k : new int[] {LEAST, -1, slotsOf(x), 4, 5, 16, MOST}) {
                checks.refused("put(" + x + ", " + k + ", 9)", ObjectsTest::oneOfEach, p -> p.put(object, k, 9));
            }
        }
        for (int x : new int[] {LEAST, -2, -1, 8, 15, 16, MOST}) {
            checks.refused("put(" + x + ", 0, 9)", ObjectsTest::oneOfEach, p -> p.put(x, 0, 9));
        }
    }

    // Promise 5

    private static void linkReplaces() {
        checks.sentence("Slot k of object x refers to object y from now on");
        for (int y = 0; y <= 3; y++) {
            Pages pages = new Pages();
            pages.makePair();
            pages.makeArray(3);
            pages.makeText("q");
            pages.makeArray(0);
            pages.put(1, 0, 5);
            pages.link(1, 1, 2);
            for (int k = 0; k < 3; k++) {
                checks.due("link(1, " + k + ", " + y + ")", pages.link(1, k, y), true);
                checks.due("holds(1, " + k + ")", pages.holds(1, k), 2);
                checks.due("value(1, " + k + ")", pages.value(1, k), y);
            }
            checks.due("graph", pages.graph(), "P[- -] A[@" + y + " @" + y + " @" + y + "] T(q) A[]");
        }
    }

    private static void linkNothing() {
        checks.sentence("or holds NOTHING when y is -1");
        Pages pages = new Pages();
        pages.makeArray(3);
        pages.put(0, 0, 77);
        pages.link(0, 1, 0);
        for (int k = 0; k < 3; k++) {
            checks.due("link(0, " + k + ", -1)", pages.link(0, k, -1), true);
            checks.due("holds(0, " + k + ")", pages.holds(0, k), 0);
            checks.due("value(0, " + k + ")", pages.value(0, k), 0);
        }
        checks.due("objects()", pages.objects(), 1);
    }

    private static void linkSlots() {
        checks.sentence("false when there is no such slot");
        for (int x = 0; x <= 7; x++) {
            int object = x;
            for (int k = 0; k < slotsOf(x); k++) {
                checks.due("link(" + x + ", " + k + ", 6)", oneOfEach().link(x, k, 6), true);
            }
            for (int k : new int[] {LEAST, -1, slotsOf(x), 4, 5, MOST}) {
                checks.refused("link(" + x + ", " + k + ", 6)", ObjectsTest::oneOfEach, p -> p.link(object, k, 6));
                checks.refused("link(" + x + ", " + k + ", -1)", ObjectsTest::oneOfEach, p -> p.link(object, k, -1));
            }
        }
        for (int x : new int[] {LEAST, -2, -1, 8, 15, 16, MOST}) {
            checks.refused("link(" + x + ", 0, 6)", ObjectsTest::oneOfEach, p -> p.link(x, 0, 6));
            checks.refused("link(" + x + ", 0, -1)", ObjectsTest::oneOfEach, p -> p.link(x, 0, -1));
        }
    }

    private static void linkTargets() {
        checks.sentence("false when .. y is neither -1 nor the number of an object");
        for (int y = -1; y <= 7; y++) {
            checks.due("link(0, 1, " + y + ")", oneOfEach().link(0, 1, y), true);
        }
        for (int y : new int[] {LEAST, -3, -2, 8, 9, 15, 16, MOST}) {
            checks.refused("link(0, 1, " + y + ")", ObjectsTest::oneOfEach, p -> p.link(0, 1, y));
            checks.refused("link(5, 3, " + y + ")", ObjectsTest::oneOfEach, p -> p.link(5, 3, y));
        }
        Pages pages = oneOfEach();
        pages.clear();
        pages.makePair();
        checks.due("link to one that was removed", pages.link(0, 0, 1), false);
    }

    // Promises 6 to 10

    private static void objects() {
        checks.sentence("The number of objects.");
        Pages pages = new Pages();
        for (int n = 0; n <= 16; n++) {
            checks.due("objects()", pages.objects(), n);
            pages.make(n % 3, 2);
        }
        checks.due("objects() after a refused make", pages.objects(), 16);
        pages.clear();
        checks.due("objects() after clear()", pages.objects(), 0);
        pages.feedAll("<e v=\"1\"><b><p><t/><n/></p></b></e>");
        pages.decode();
        checks.due("objects() after decode()", pages.objects(), 2);
    }

    private static void kind() {
        checks.sentence("0 for a PAIR, 1 for an ARRAY, 2 for a TEXT; -1 when there is no object x.");
        int[] kinds = {0, 1, 1, 1, 1, 1, 2, 2};
        for (int x = 0; x < 8; x++) {
            checks.due("kind(" + x + ")", oneOfEach().kind(x), kinds[x]);
        }
        for (int x : new int[] {LEAST, -1, 8, 15, 16, MOST}) {
            checks.changesNothing("kind(" + x + ")", ObjectsTest::oneOfEach, p -> p.kind(x), -1);
        }
        checks.due("kind(15) of sixteen", sixteen().kind(15), 2);
        checks.due("kind(16) of sixteen", sixteen().kind(16), -1);
    }

    private static void size() {
        checks.sentence("The number of slots of a PAIR or an ARRAY, of characters (it has no slots) of a TEXT; "
            + "-1 when there is no object x.");
        int[] sizes = {2, 0, 1, 2, 3, 4, 0, 6};
        for (int x = 0; x < 8; x++) {
            checks.due("size(" + x + ")", oneOfEach().size(x), sizes[x]);
        }
        for (int x : new int[] {LEAST, -1, 8, 15, 16, MOST}) {
            checks.changesNothing("size(" + x + ")", ObjectsTest::oneOfEach, p -> p.size(x), -1);
        }
        Pages pages = Pages.after(p -> p.makeText(""));
        for (int n = 0; n <= 6; n++) {
            checks.due("size(0) after " + n + " characters", pages.size(0), n);
            pages.type(0, ' ');
        }
        checks.due("size(0) after a refused character", pages.size(0), 6);
        pages.makeArray(3);
        pages.link(1, 2, 0);
        checks.due("size of an ARRAY with a slot that holds something", pages.size(1), 3);
        checks.due("size(15) of sixteen", sixteen().size(15), 1);
        checks.due("size(16) of sixteen", sixteen().size(16), -1);
    }

    private static void holds() {
        checks.sentence("What slot k of object x holds: 0 NOTHING, 1 an int, 2 a reference");
        Pages pages = new Pages();
        pages.makeArray(4);
        pages.put(0, 1, 0);
        pages.link(0, 2, 0);
        pages.put(0, 3, -1);
        int[] want = {0, 1, 2, 1};
        for (int k = 0; k < 4; k++) {
            checks.due("holds(0, " + k + ")", pages.holds(0, k), want[k]);
        }
    }

    private static void holdsSlotsOnly() {
        checks.sentence("-1 when there is no such slot (a TEXT has none).");
        for (int x = 0; x <= 7; x++) {
            int object = x;
            for (int k = 0; k < slotsOf(x); k++) {
                checks.due("holds(" + x + ", " + k + ") is no -1", oneOfEach().holds(x, k) != -1, true);
            }
            for (int k : new int[] {LEAST, -1, slotsOf(x), 4, 5, MOST}) {
                checks.changesNothing("holds(" + x + ", " + k + ")", ObjectsTest::oneOfEach, p -> p.holds(object, k), -1);
            }
        }
        for (int x : new int[] {LEAST, -1, 8, 16, MOST}) {
            checks.changesNothing("holds(" + x + ", 0)", ObjectsTest::oneOfEach, p -> p.holds(x, 0), -1);
        }
    }

    private static void value() {
        checks.sentence("The int in slot k of object x, or the number of the object that it refers to, "
            + "or the code of character k of a TEXT");
        Pages pages = new Pages();
        int array = pages.makeArray(4);
        int text = pages.makeText(" ~&09z");
        pages.put(array, 0, LEAST);
        pages.put(array, 1, MOST);
        pages.link(array, 2, text);
        pages.link(array, 3, array);
        int[] slots = {LEAST, MOST, text, array};
        for (int k = 0; k < 4; k++) {
            checks.due("value(0, " + k + ")", pages.value(array, k), slots[k]);
        }
        for (int k = 0; k < 6; k++) {
            checks.due("value(1, " + k + ")", pages.value(text, k), " ~&09z".charAt(k));
        }
        Pages many = sixteen();
        many.link(14, 0, 15);
        checks.due("value of a reference to the last", many.value(14, 0), 15);
    }

    private static void valueOfNone() {
        checks.sentence("0 when there is no such slot or character, or the slot holds NOTHING.");
        for (int x = 0; x <= 7; x++) {
            int object = x;
            int size = x == 7 ? 6 : slotsOf(x);
            for (int k : new int[] {LEAST, -1, size, size + 1, 6, 7, MOST}) {
                checks.changesNothing("value(" + x + ", " + k + ")", ObjectsTest::oneOfEach, p -> p.value(object, k), 0);
            }
        }
        for (int x : new int[] {LEAST, -1, 8, 16, MOST}) {
            checks.changesNothing("value(" + x + ", 0)", ObjectsTest::oneOfEach, p -> p.value(x, 0), 0);
        }
        checks.due("value of a slot that holds NOTHING", oneOfEach().value(0, 0), 0);
        Pages pages = Pages.after(p -> p.makeText("ab"));
        checks.due("the last character", pages.value(0, 1), 'b');
        checks.due("one beyond the last character", pages.value(0, 2), 0);
    }

    /** What is beyond an object is not the end or the start of the one beside it. */
    private static void valuesOfNeighbours() {
        checks.sentence("0 when there is no such slot or character");
        Pages pages = new Pages();
        for (int x = 0; x < 3; x++) {
            pages.makeText("abcdef");
        }
        for (int x = 3; x < 6; x++) {
            pages.makeArray(4);
            for (int k = 0; k < 4; k++) {
                pages.put(x, k, 7);
            }
        }
        for (int x = 0; x < 6; x++) {
            for (int k = -8; k < 0; k++) {
                checks.due("value(" + x + ", " + k + ")", pages.value(x, k), 0);
            }
            for (int k = x < 3 ? 6 : 4; k < 14; k++) {
                checks.due("value(" + x + ", " + k + ")", pages.value(x, k), 0);
            }
        }
    }

    // Promise 15

    private static void clear() {
        checks.sentence("Removes all objects; the next one made has number 0.");
        for (Pages pages : new Pages[] {new Pages(), oneOfEach(), sixteen()}) {
            pages.clear();
            checks.due("objects()", pages.objects(), 0);
            checks.due("kind(0)", pages.kind(0), -1);
            checks.due("size(0)", pages.size(0), -1);
            checks.due("holds(0, 0)", pages.holds(0, 0), -1);
            checks.due("value(0, 0)", pages.value(0, 0), 0);
            checks.due("put(0, 0, 1)", pages.put(0, 0, 1), false);
            checks.due("alike(0, 0)", pages.alike(0, 0), false);
            checks.due("shared(0)", pages.shared(0), -1);
            pages.clear();
            for (int x = 0; x < 16; x++) {
                checks.due("make(0, 0)", pages.make(0, 0), x);
            }
            checks.due("make of a seventeenth", pages.make(0, 0), -1);
        }
    }

    private static void clearKeepsPageAndKeys() {
        checks.sentence("The page and the keys that are understood stay.");
        Pages pages = oneOfEach();
        pages.understand(0, true);
        pages.clear();
        checks.due("page", pages.page(), "page");
        checks.due("keys", pages.takeKeys(), "0 31");
        Pages written = oneOfEach();
        written.encode(7);
        written.clear();
        checks.due("decode()", written.decode(), 0);
        checks.due("graph", written.graph(), "T(abcdef)");
    }

    private static void clearLeavesNothing() {
        checks.sentence("A slot holds NOTHING (at first) / an empty TEXT for kind 2");
        Pages pages = new Pages();
        pages.makePair();
        pages.put(0, 0, 5);
        pages.put(0, 1, 6);
        pages.makeText("abcdef");
        pages.makeArray(4);
        pages.link(2, 3, 2);
        pages.clear();
        pages.makeArray(4);
        pages.makeText("");
        pages.makeArray(4);
        checks.due("graph", pages.graph(), "A[- - - -] T() A[- - - -]");
        checks.due("value(1, 0)", pages.value(1, 0), 0);
        checks.due("type(1, z)", pages.type(1, 'z'), true);
        checks.due("value(1, 0)", pages.value(1, 0), 'z');
        checks.due("value(1, 1)", pages.value(1, 1), 0);
        checks.due("shared(2)", pages.shared(2), 0);
    }
}
