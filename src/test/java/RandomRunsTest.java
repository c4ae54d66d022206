import java.util.Random;

/** All promises: runs of calls drawn from fixed seeds, each answer compared with that of Model. */
public final class RandomRunsTest {
    private static final int RUNS = 6000;
    private static final String[] NAMES = {"p", "a", "t", "n", "i", "r", "b", "h", "x"};
    private static final String[] NUMBERS = {"0", "7", "-12", "007", "-0", "2147483647", "-2147483648",
        "2147483648", "-2147483649", "00000000001", "", "-", "1 ", "&#49;"};
    private static final String[] TEXTS = {"", "a", "abcdef", "abcdefg", "&lt;&gt;", "&quot;&amp;", " ", "&#65;",
        "&#127;", ">\"", "&x;", "&"};
    private static final String PATCHES = "<>/=\"& ;#0123456789-abehimnoprtvx";
    private static final Checks checks = new Checks();

    private final Random random;
    private final String run;
    private final Pages pages = new Pages();
    private final Model model = new Model();
    private int calls = 0;

    private RandomRunsTest(int seed) {
        random = new Random(seed);
        run = "run " + seed + ", ";
    }

    public static void main(String[] args) {
        checks.sentence("any call in any state");
        int roots = 0;
        int[] faults = new int[5];
        for (int seed = 0; seed < RUNS; seed++) {
            RandomRunsTest test = new RandomRunsTest(seed);
            int answer = seed % 2 == 0 ? test.readSomePages() : test.callAnything();
            if (answer >= 0) {
                roots++;
            } else {
                faults[-answer]++;
            }
        }
        // Runs that all end in the same fault would tell nothing.
        checks.due("roots enough", roots > RUNS / 10, true);
        for (int fault = 1; fault <= 4; fault++) {
            checks.due("faults enough of " + -fault, faults[fault] > RUNS / 100, true);
        }
        checks.end();
    }

    private int draw(int bound) {
        return random.nextInt(bound);
    }

    private <T> T oneOf(T[] row) {
        return row[draw(row.length)];
    }

    private void due(String call, long got, long want) {
        calls++;
        checks.due(run + "call " + calls + ": " + call, got, want);
    }

    private void due(String call, boolean got, boolean want) {
        due(call, got ? 1 : 0, want ? 1 : 0);
    }

    private int decode() {
        int want = model.decode();
        due("decode()", pages.decode(), want);
        return want;
    }

    // Pages from a grammar that is a little wider than that of the document

    private int readSomePages() {
        understandSome();
        int answer = GraphPages.FORM;
        while (pages.callsLeft() > 250) {
            String page = drawPage();
            if (page.length() > pages.callsLeft() - 120) {
                break;
            }
            due("cut(0)", pages.cut(0), model.cut(0));
            feedAll(page);
            answer = decode();
            if (draw(2) == 0 && answer == GraphPages.FORM) {
                patchPage();
                answer = decode();
            }
            if (draw(4) == 0) {
                pages.clear();
                model.clear();
                answer = decode();
            }
        }
        compareGraphs();
        return answer;
    }

    private void understandSome() {
        for (int n = draw(3); n > 0; n--) {
            int k = draw(4);
            due("understand(" + k + ", true)", pages.understand(k, true), model.understand(k, true));
        }
    }

    private void feedAll(String page) {
        for (char c : page.toCharArray()) {
            due("feed(" + c + ")", pages.feed(c), model.feed(c));
        }
    }

    private void patchPage() {
        if (model.length() > 0) {
            int p = draw(model.length());
            char c = PATCHES.charAt(draw(PATCHES.length()));
            due("alter(" + p + ", " + c + ")", pages.alter(p, c), model.alter(p, c));
        }
    }

    private String drawPage() {
        StringBuilder page = new StringBuilder(rarely(30) ? "<e v=\"2\">" : rarely(60) ? "<e v=\"1\" w=\"\">" : "<e v=\"1\">");
        for (int n = rarely(3) ? 1 + draw(2) : 0; n > 0; n--) {
            page.append("<h").append(rarely(2) ? " m=\"1\"" : "").append(rarely(2) ? " k=\"" + draw(4) + "\"" : "");
            page.append(rarely(2) ? "/>" : "><t>x</t></h>");
        }
        page.append("<b>").append(drawElement(0, false, rarely(20) ? "" : rarely(3) ? " h=\"1\"" : null));
        for (int n = draw(3); n > 0; n--) {
            page.append(drawElement(0, false, rarely(20) ? "" : " id=\"" + drawId() + "\""));
        }
        page.append("</b></e>");
        if (rarely(8)) {
            page.setCharAt(draw(page.length()), PATCHES.charAt(draw(PATCHES.length())));
        }
        if (rarely(20)) {
            page.deleteCharAt(draw(page.length()));
        }
        return page.toString();
    }

    private boolean rarely(int n) {
        return draw(n) == 0;
    }

    private int drawId() {
        return rarely(3) ? draw(12) : 1 + draw(4);
    }

    private String drawElement(int deep, boolean inArray, String given) {
        String name = rarely(25) ? oneOf(NAMES) : deep > 2 ? NAMES[2 + draw(4)] : NAMES[draw(6)];
        if (deep == 0 && !rarely(15)) {
            name = given != null && given.startsWith(" h") ? "r" : NAMES[draw(3)];
        }
        StringBuilder row = new StringBuilder("<").append(name);
        if (given != null) {
            row.append(given);
        } else if (name.equals("r")) {
            row.append(" h=\"").append(drawId()).append('"');
        } else if (name.matches("[pat]") && rarely(3)) {
            row.append(" id=\"").append(drawId()).append('"');
        }
        int slots = rarely(25) ? draw(7) : draw(5);
        if (name.equals("a")) {
            row.append(" n=\"").append(rarely(8) ? "0" : "").append(slots).append('"');
            row.append(rarely(4) ? " o=\"" + draw(slots + 1) + "\"" : "");
        }
        if (inArray ? rarely(5) : rarely(80)) {
            row.append(" at=\"").append(draw(5)).append('"');
        }
        String inside = drawInside(name, deep, name.equals("a") ? draw(slots + 1) : rarely(25) ? draw(4) : 2);
        if (inside.isEmpty() && rarely(2)) {
            return row.append(rarely(3) ? " />" : "/>").toString();
        }
        return row.append('>').append(inside).append("</").append(name).append('>').toString();
    }

    private String drawInside(String name, int deep, int children) {
        if (name.equals("i")) {
            return rarely(3) ? oneOf(NUMBERS) : Integer.toString(draw(100) - 50);
        }
        if (name.equals("t")) {
            return rarely(3) ? oneOf(TEXTS) : "q";
        }
        StringBuilder row = new StringBuilder(rarely(60) ? " " : "");
        for (int n = name.equals("p") || name.equals("a") ? children : rarely(60) ? 1 : 0; n > 0; n--) {
            row.append(drawElement(deep + 1, name.equals("a"), null));
        }
        return row.toString();
    }

    // Any calls

    private int callAnything() {
        int answer = GraphPages.FORM;
        int objects = 1 + draw(8);
        for (int n = 0; n < objects; n++) {
            make(draw(3), draw(5));
        }
        while (pages.callsLeft() > 150) {
            switch (draw(8)) {
                case 0: make(draw(5) - 1, draw(7) - 1); break;
                case 1: fillText(); break;
                case 2: case 3: case 4: fillSlot(); break;
                case 5: look(); break;
                case 6: touchPage(); break;
                default: answer = writeAndRead(answer); break;
            }
        }
        compareGraphs();
        return answer;
    }

    private void make(int kind, int size) {
        due("make(" + kind + ", " + size + ")", pages.make(kind, size), model.make(kind, size));
    }

    private int drawObject() {
        return rarely(20) ? draw(19) - 1 : draw(Math.max(1, model.objects()));
    }

    private void fillText() {
        int x = drawObject();
        char c = rarely(10) ? (char) draw(200) : "<>&\"ab".charAt(draw(6));
        due("type(" + x + ", " + (int) c + ")", pages.type(x, c), model.type(x, c));
    }

    private void fillSlot() {
        int x = drawObject();
        int k = draw(6) - 1;
        if (rarely(4)) {
            int v = rarely(3) ? random.nextInt() : draw(3) - 1;
            due("put(" + x + ", " + k + ", " + v + ")", pages.put(x, k, v), model.put(x, k, v));
        } else {
            int y = rarely(5) ? -1 : drawObject();
            due("link(" + x + ", " + k + ", " + y + ")", pages.link(x, k, y), model.link(x, k, y));
        }
    }

    private void look() {
        int x = drawObject();
        int y = drawObject();
        int k = draw(8) - 1;
        due("kind(" + x + ")", pages.kind(x), model.kind(x));
        due("size(" + x + ")", pages.size(x), model.size(x));
        due("holds(" + x + ", " + k + ")", pages.holds(x, k), model.holds(x, k));
        due("value(" + x + ", " + k + ")", pages.value(x, k), model.value(x, k));
        due("alike(" + x + ", " + y + ")", pages.alike(x, y), model.alike(x, y));
        due("shared(" + x + ")", pages.shared(x), model.shared(x));
    }

    private void touchPage() {
        int p = draw(model.length() + 3) - 1;
        char c = rarely(10) ? (char) draw(300) : PATCHES.charAt(draw(PATCHES.length()));
        due("charAt(" + p + ")", pages.charAt(p), model.charAt(p));
        due("length()", pages.length(), model.length());
        switch (draw(rarely(6) ? 4 : 2)) {
            case 0: due("alter(" + p + ", " + (int) c + ")", pages.alter(p, c), model.alter(p, c)); break;
            case 1: decode(); break;
            case 2: due("cut(" + p + ")", pages.cut(p), model.cut(p)); break;
            default: due("feed(" + (int) c + ")", pages.feed(c), model.feed(c)); break;
        }
    }

    private int writeAndRead(int before) {
        int x = drawObject();
        int want = model.encode(x);
        due("encode(" + x + ")", pages.encode(x), want);
        comparePages();
        if (rarely(3)) {
            return before;
        }
        if (rarely(3)) {
            patchPage();
        }
        int root = decode();
        if (root >= 0 && want >= 0) {
            due("alike(" + x + ", " + root + ")", pages.alike(x, root), model.alike(x, root));
        }
        if (model.objects() > 12) {
            pages.clear();
            model.clear();
            make(draw(2), draw(5));
        }
        return root;
    }

    /** Looks at some twenty places, for a page told whole would take most of the calls of a run. */
    private void comparePages() {
        due("length()", pages.length(), model.length());
        int step = 1 + model.length() / 20;
        for (int p = draw(step); p < model.length(); p += step) {
            due("charAt(" + p + ")", pages.charAt(p), model.charAt(p));
        }
    }

    private void compareGraphs() {
        due("objects()", pages.objects(), model.objects());
        for (int x = model.objects() - 1; x >= 0 && pages.callsLeft() >= 20; x--) {
            due("kind(" + x + ")", pages.kind(x), model.kind(x));
            due("size(" + x + ")", pages.size(x), model.size(x));
            for (int k = 0; k <= model.size(x); k++) {
                due("holds(" + x + ", " + k + ")", pages.holds(x, k), model.holds(x, k));
                due("value(" + x + ", " + k + ")", pages.value(x, k), model.value(x, k));
            }
        }
    }
}
