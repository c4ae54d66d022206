/** Promises 1 to 10 and 15: objects are made, filled, looked at and removed. */
public final class ObjectsTest {
    private static final Checks checks = new Checks();

    public static void main(String[] args) {
        newObject();
        make();
        makeRefusesTheSeventeenth();
        type();
        put();
        link();
        looksAtWhatIsNotThere();
        value();
        clear();
        checks.end();
    }

    private static void newObject() {
        GraphPages pages = new GraphPages();
        checks.due("objects() of a new one", pages.objects(), 0);
        checks.due("length() of a new one", pages.length(), 0);
        checks.due("kind(0) of a new one", pages.kind(0), -1);
        for (int k = 0; k < 32; k++) {
            checks.due("understand(" + k + ", false) of a new one", pages.understand(k, false), false);
        }
        GraphPages other = new GraphPages();
        pages.make(0, 0);
        pages.feed('x');
        pages.understand(3, true);
        checks.due("objects() of another", other.objects(), 0);
        checks.due("length() of another", other.length(), 0);
        checks.due("understand(3, false) of another", other.understand(3, false), false);
    }

    private static void make() {
        GraphPages pages = new GraphPages();
        checks.due("make(0, -7)", pages.make(0, -7), 0);
        checks.due("size of a PAIR", pages.size(0), 2);
        checks.due("make(2, 99)", pages.make(2, 99), 1);
        checks.due("size of a new TEXT", pages.size(1), 0);
        for (int size = 0; size <= 4; size++) {
            checks.due("make(1, " + size + ")", pages.make(1, size), 2 + size);
            checks.due("size of it", pages.size(2 + size), size);
            checks.due("kind of it", pages.kind(2 + size), 1);
        }
        int[][] wrong = {{1, -1}, {1, 5}, {1, Integer.MIN_VALUE}, {1, Integer.MAX_VALUE},
            {-1, 2}, {3, 2}, {Integer.MIN_VALUE, 2}, {Integer.MAX_VALUE, 2}};
        for (int[] w : wrong) {
            checks.due("make(" + w[0] + ", " + w[1] + ")", pages.make(w[0], w[1]), -1);
        }
        checks.due("objects()", pages.objects(), 7);
        checks.due("graph", Checks.graph(pages), "P[- -] T() A[] A[-] A[- -] A[- - -] A[- - - -]");
    }

    private static void makeRefusesTheSeventeenth() {
        GraphPages pages = new GraphPages();
        for (int x = 0; x < 16; x++) {
            checks.due("make", pages.make(x % 3, 4), x);
        }
        for (int kind = -1; kind <= 3; kind++) {
            checks.due("make of a seventeenth", pages.make(kind, 0), -1);
        }
        checks.due("objects()", pages.objects(), 16);
        checks.due("put into the last", pages.put(15, 1, 5), true);
        checks.due("link to the last", pages.link(0, 0, 15), true);
        checks.due("link beyond the last", pages.link(0, 0, 16), false);
        checks.due("show(0)", Checks.show(pages, 0), "P[@15 -]");
    }

    private static void type() {
        GraphPages pages = new GraphPages();
        pages.make(2, 0);
        pages.make(0, 0);
        pages.make(1, 4);
        checks.due("type 31", pages.type(0, (char) 31), false);
        checks.due("type 127", pages.type(0, (char) 127), false);
        checks.due("type 0", pages.type(0, (char) 0), false);
        checks.due("type 300", pages.type(0, (char) 300), false);
        checks.due("type 65535", pages.type(0, (char) 65535), false);
        checks.due("type a space", pages.type(0, ' '), true);
        checks.due("type 126", pages.type(0, '~'), true);
        for (int n = 2; n < 6; n++) {
            checks.due("size", pages.size(0), n);
            checks.due("type", pages.type(0, (char) ('a' + n)), true);
        }
        checks.due("a seventh", pages.type(0, 'z'), false);
        checks.due("type to a PAIR", pages.type(1, 'a'), false);
        checks.due("type to an ARRAY", pages.type(2, 'a'), false);
        checks.due("type to -1", pages.type(-1, 'a'), false);
        checks.due("type to 3", pages.type(3, 'a'), false);
        checks.due("graph", Checks.graph(pages), "T( ~cdef) P[- -] A[- - - -]");
    }

    private static void put() {
        GraphPages pages = new GraphPages();
        pages.make(0, 0);
        pages.make(1, 3);
        pages.make(1, 0);
        Checks.makeText(pages, "ab");
        checks.due("put(0, 0)", pages.put(0, 0, Integer.MIN_VALUE), true);
        checks.due("put(0, 1)", pages.put(0, 1, 0), true);
        checks.due("put(1, 2)", pages.put(1, 2, Integer.MAX_VALUE), true);
        int[][] wrong = {{0, 2}, {0, -1}, {1, 3}, {1, -1}, {2, 0}, {3, 0}, {3, 1}, {4, 0}, {-1, 0},
            {0, Integer.MAX_VALUE}, {0, Integer.MIN_VALUE}, {Integer.MAX_VALUE, 0}, {Integer.MIN_VALUE, 0}};
        for (int[] w : wrong) {
            checks.due("put(" + w[0] + ", " + w[1] + ")", pages.put(w[0], w[1], 9), false);
        }
        checks.due("holds an int 0", pages.holds(0, 1), 1);
        checks.due("graph", Checks.graph(pages), "P[-2147483648 0] A[- - 2147483647] A[] T(ab)");
        checks.due("put over a reference", pages.link(0, 0, 3) && pages.put(0, 0, 3), true);
        checks.due("holds", pages.holds(0, 0), 1);
    }

    private static void link() {
        GraphPages pages = new GraphPages();
        pages.make(0, 0);
        pages.make(1, 2);
        Checks.makeText(pages, "x");
        checks.due("link to itself", pages.link(0, 0, 0), true);
        checks.due("link to a TEXT", pages.link(0, 1, 2), true);
        checks.due("link", pages.link(1, 1, 0), true);
        checks.due("graph", Checks.graph(pages), "P[@0 @2] A[- @0] T(x)");
        int[][] wrong = {{0, 2, 0}, {0, -1, 0}, {1, 2, 0}, {2, 0, 0}, {3, 0, 0}, {-1, 0, 0}, {0, 0, 3},
            {0, 0, -2}, {0, 0, Integer.MAX_VALUE}, {0, 0, Integer.MIN_VALUE}, {0, 2, -1}, {2, 0, -1}, {-1, 0, -1}};
        for (int[] w : wrong) {
            checks.due("link(" + w[0] + ", " + w[1] + ", " + w[2] + ")", pages.link(w[0], w[1], w[2]), false);
        }
        checks.due("graph", Checks.graph(pages), "P[@0 @2] A[- @0] T(x)");
        checks.due("link to NOTHING", pages.link(0, 1, -1), true);
        checks.due("holds NOTHING", pages.holds(0, 1), 0);
        checks.due("value of NOTHING", pages.value(0, 1), 0);
        pages.put(1, 0, 77);
        checks.due("NOTHING over an int", pages.link(1, 0, -1), true);
        checks.due("value of NOTHING over an int", pages.value(1, 0), 0);
        checks.due("graph", Checks.graph(pages), "P[@0 -] A[- @0] T(x)");
    }

    private static void looksAtWhatIsNotThere() {
        GraphPages pages = new GraphPages();
        pages.make(0, 0);
        Checks.makeText(pages, "ab");
        int[] strangers = {-1, 2, 16, Integer.MIN_VALUE, Integer.MAX_VALUE};
        for (int x : strangers) {
            checks.due("kind(" + x + ")", pages.kind(x), -1);
            checks.due("size(" + x + ")", pages.size(x), -1);
            checks.due("holds(" + x + ", 0)", pages.holds(x, 0), -1);
            checks.due("value(" + x + ", 0)", pages.value(x, 0), 0);
            checks.due("shared(" + x + ")", pages.shared(x), -1);
            checks.due("encode(" + x + ")", pages.encode(x), -1);
            checks.due("alike(" + x + ", 0)", pages.alike(x, 0), false);
            checks.due("alike(0, " + x + ")", pages.alike(0, x), false);
            checks.due("alike(x, x)", pages.alike(x, x), false);
            checks.due("holds(0, " + x + ")", pages.holds(0, x), -1);
            checks.due("value(0, " + x + ")", pages.value(0, x), 0);
            checks.due("value(1, " + x + ")", pages.value(1, x), 0);
        }
        checks.due("kind of a PAIR", pages.kind(0), 0);
        checks.due("kind of a TEXT", pages.kind(1), 2);
        checks.due("holds of a TEXT", pages.holds(1, 0), -1);
        checks.due("length()", pages.length(), 0);
    }

    private static void value() {
        GraphPages pages = new GraphPages();
        int pair = pages.make(0, 0);
        int text = Checks.makeText(pages, "a~ ");
        pages.put(pair, 0, -5);
        pages.link(pair, 1, text);
        checks.due("value of an int", pages.value(pair, 0), -5);
        checks.due("value of a reference", pages.value(pair, 1), text);
        checks.due("holds of an int", pages.holds(pair, 0), 1);
        checks.due("holds of a reference", pages.holds(pair, 1), 2);
        checks.due("character 0", pages.value(text, 0), 97);
        checks.due("character 1", pages.value(text, 1), 126);
        checks.due("character 2", pages.value(text, 2), 32);
        checks.due("character 3", pages.value(text, 3), 0);
    }

    private static void clear() {
        GraphPages pages = new GraphPages();
        pages.make(0, 0);
        pages.put(0, 0, 5);
        pages.put(0, 1, 6);
        Checks.makeText(pages, "abcdef");
        pages.understand(4, true);
        pages.encode(1);
        String page = Checks.pageOf(pages);
        pages.clear();
        checks.due("objects()", pages.objects(), 0);
        checks.due("kind(0)", pages.kind(0), -1);
        checks.due("holds(0, 0)", pages.holds(0, 0), -1);
        checks.due("the page", Checks.pageOf(pages), page);
        checks.due("understand(4, true)", pages.understand(4, true), false);
        checks.due("make after clear", pages.make(1, 2), 0);
        checks.due("nothing is left in the slots", Checks.show(pages, 0), "A[- -]");
        checks.due("value of slot 0", pages.value(0, 0), 0);
        checks.due("value of slot 1", pages.value(0, 1), 0);
        checks.due("make after clear", pages.make(2, 0), 1);
        checks.due("nothing is left of the text", Checks.show(pages, 1), "T()");
        checks.due("value of character 0", pages.value(1, 0), 0);
        checks.due("type after clear", pages.type(1, 'z'), true);
        checks.due("value of character 1", pages.value(1, 1), 0);
        pages.clear();
        checks.due("decode after clear", pages.decode(), 0);
        checks.due("graph", Checks.graph(pages), "T(abcdef)");
        pages.clear();
        pages.clear();
        for (int x = 0; x < 16; x++) {
            checks.due("make", pages.make(0, 0), x);
        }
    }
}
