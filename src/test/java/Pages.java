import java.util.function.Consumer;

/** A GraphPages whose calls are counted, for the document promises nothing after the 512th. */
final class Pages {
    private static final int MOST_CALLS = 512;

    private final GraphPages inner = new GraphPages();
    private int calls = 0;

    /** A new one on which some calls have been made. */
    static Pages after(Consumer<Pages> setUp) {
        Pages pages = new Pages();
        setUp.accept(pages);
        return pages;
    }

    static Pages withPage(String page) {
        return after(pages -> pages.feedAll(page));
    }

    private GraphPages counted() {
        if (calls == MOST_CALLS) {
            throw new IllegalStateException("this test makes more calls than the document promises to answer");
        }
        calls++;
        return inner;
    }

    int callsLeft() {
        return MOST_CALLS - calls;
    }

    int make(int kind, int size) {
        return counted().make(kind, size);
    }

    boolean type(int x, char c) {
        return counted().type(x, c);
    }

    boolean put(int x, int k, int v) {
        return counted().put(x, k, v);
    }

    boolean link(int x, int k, int y) {
        return counted().link(x, k, y);
    }

    int objects() {
        return counted().objects();
    }

    int kind(int x) {
        return counted().kind(x);
    }

    int size(int x) {
        return counted().size(x);
    }

    int holds(int x, int k) {
        return counted().holds(x, k);
    }

    int value(int x, int k) {
        return counted().value(x, k);
    }

    boolean alike(int x, int y) {
        return counted().alike(x, y);
    }

    int shared(int x) {
        return counted().shared(x);
    }

    int encode(int x) {
        return counted().encode(x);
    }

    int decode() {
        return counted().decode();
    }

    void clear() {
        counted().clear();
    }

    boolean understand(int k, boolean yes) {
        return counted().understand(k, yes);
    }

    int length() {
        return counted().length();
    }

    int charAt(int p) {
        return counted().charAt(p);
    }

    boolean feed(char c) {
        return counted().feed(c);
    }

    boolean alter(int p, char c) {
        return counted().alter(p, c);
    }

    boolean cut(int n) {
        return counted().cut(n);
    }

    // What the tests do with several calls

    int makePair() {
        return make(0, 0);
    }

    int makeArray(int size) {
        return make(1, size);
    }

    int makeText(String characters) {
        int x = make(2, 0);
        for (char c : characters.toCharArray()) {
            type(x, c);
        }
        return x;
    }

    void makePairs(int count) {
        for (int n = 0; n < count; n++) {
            makePair();
        }
    }

    void feedAll(String page) {
        for (char c : page.toCharArray()) {
            if (!feed(c)) {
                throw new IllegalStateException("feed refused " + c + " of " + page);
            }
        }
    }

    void replacePage(String page) {
        cut(0);
        feedAll(page);
    }

    String page() {
        StringBuilder row = new StringBuilder();
        int length = length();
        for (int p = 0; p < length; p++) {
            row.append((char) charAt(p));
        }
        return row.toString();
    }

    /** Looks at every place, or at every so many when the calls that are left do not reach for all. */
    boolean shows(String page, int callsToLeave) {
        if (length() != page.length()) {
            return false;
        }
        int step = 1 + page.length() / Math.max(1, callsLeft() - callsToLeave);
        for (int p = 0; p < page.length(); p += step) {
            if (charAt(p) != page.charAt(p)) {
                return false;
            }
        }
        return true;
    }

    /** One object as a row: P, A or T, then [slots] or (characters); a reference is written @number. */
    String show(int x) {
        int kind = kind(x);
        int size = size(x);
        StringBuilder row = new StringBuilder(kind < 0 ? "none" : kind == 0 ? "P" : kind == 1 ? "A" : "T");
        row.append(kind == 2 ? "(" : "[");
        for (int k = 0; k < size; k++) {
            row.append(kind == 2 ? Character.toString((char) value(x, k)) : (k > 0 ? " " : "") + showSlot(x, k));
        }
        return row.append(kind == 2 ? ")" : "]").toString();
    }

    private String showSlot(int x, int k) {
        int holds = holds(x, k);
        int value = value(x, k);
        return holds == 0 && value == 0 ? "-" : holds == 1 ? "" + value : holds == 2 ? "@" + value : "wrong";
    }

    String graph() {
        StringBuilder row = new StringBuilder();
        int objects = objects();
        for (int x = 0; x < objects; x++) {
            row.append(x > 0 ? " " : "").append(show(x));
        }
        return row.toString();
    }

    /** The keys that were understood; none is afterwards. */
    String takeKeys() {
        StringBuilder row = new StringBuilder();
        for (int k = 0; k < 32; k++) {
            row.append(understand(k, false) ? k + " " : "");
        }
        return row.toString().trim();
    }

    /**
     * All that can be seen, and what can be seen only later: what stands in objects that are made now,
     * and the page that is written then. It uses the object up.
     */
    String everything() {
        StringBuilder row = new StringBuilder(graph()).append(" | ").append(page());
        row.append(" | ").append(takeKeys()).append(" |");
        int array = makeArray(4);
        int text = make(2, 0);
        row.append(' ').append(show(array)).append(' ').append(show(text));
        row.append(' ').append(type(text, 'z')).append(' ').append(value(text, 1));
        row.append(' ').append(objects()).append(' ').append(shared(0)).append(' ').append(encode(0));
        return row.append(" | ").append(page()).toString();
    }
}
