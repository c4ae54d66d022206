/** Promises 16 to 21: the keys, and the page character by character. */
public final class PageTest {
    private static final Checks checks = new Checks();

    public static void main(String[] args) {
        understand();
        feedAndLook();
        alter();
        cut();
        fullPage();
        checks.end();
    }

    private static void understand() {
        GraphPages pages = new GraphPages();
        for (int k = 0; k < 32; k++) {
            checks.due("understand(" + k + ", true)", pages.understand(k, true), true);
            checks.due("once more", pages.understand(k, true), false);
        }
        checks.due("understand(31, false)", pages.understand(31, false), true);
        checks.due("once more", pages.understand(31, false), false);
        checks.due("another key stays", pages.understand(30, true), false);
        checks.due("and again", pages.understand(31, true), true);
        int[] wrong = {-1, 32, Integer.MIN_VALUE, Integer.MAX_VALUE};
        for (int k : wrong) {
            checks.due("understand(" + k + ", true)", pages.understand(k, true), false);
            checks.due("understand(" + k + ", false)", pages.understand(k, false), false);
        }
    }

    private static void feedAndLook() {
        GraphPages pages = new GraphPages();
        checks.due("charAt(0) of no page", pages.charAt(0), -1);
        for (int c = 32; c <= 126; c++) {
            checks.due("feed " + c, pages.feed((char) c), true);
            checks.due("length()", pages.length(), c - 31);
        }
        int[] wrong = {0, 10, 31, 127, 255, 256 + 65, 65535};
        for (int c : wrong) {
            checks.due("feed " + c, pages.feed((char) c), false);
        }
        checks.due("length()", pages.length(), 95);
        for (int p = 0; p < 95; p++) {
            checks.due("charAt(" + p + ")", pages.charAt(p), p + 32);
        }
        checks.due("charAt(95)", pages.charAt(95), -1);
        checks.due("charAt(-1)", pages.charAt(-1), -1);
        checks.due("charAt(least)", pages.charAt(Integer.MIN_VALUE), -1);
        checks.due("charAt(most)", pages.charAt(Integer.MAX_VALUE), -1);
    }

    private static void alter() {
        GraphPages pages = new GraphPages();
        checks.due("alter of no page", pages.alter(0, 'a'), false);
        Checks.feedAll(pages, "abc");
        checks.due("alter(0, ' ')", pages.alter(0, ' '), true);
        checks.due("alter(2, '~')", pages.alter(2, '~'), true);
        checks.due("alter(1, 'b')", pages.alter(1, 'b'), true);
        checks.due("alter(3)", pages.alter(3, 'x'), false);
        checks.due("alter(-1)", pages.alter(-1, 'x'), false);
        checks.due("alter(least)", pages.alter(Integer.MIN_VALUE, 'x'), false);
        checks.due("alter(most)", pages.alter(Integer.MAX_VALUE, 'x'), false);
        checks.due("alter to 31", pages.alter(1, (char) 31), false);
        checks.due("alter to 127", pages.alter(1, (char) 127), false);
        checks.due("alter to 300", pages.alter(1, (char) 300), false);
        checks.due("page", Checks.pageOf(pages), " b~");
    }

    private static void cut() {
        GraphPages pages = Checks.withPage("abcdef");
        checks.due("cut(7)", pages.cut(7), false);
        checks.due("cut(-1)", pages.cut(-1), false);
        checks.due("cut(least)", pages.cut(Integer.MIN_VALUE), false);
        checks.due("cut(most)", pages.cut(Integer.MAX_VALUE), false);
        checks.due("cut(6)", pages.cut(6), true);
        checks.due("page", Checks.pageOf(pages), "abcdef");
        checks.due("cut(2)", pages.cut(2), true);
        checks.due("page", Checks.pageOf(pages), "ab");
        checks.due("charAt(2)", pages.charAt(2), -1);
        checks.due("alter(2)", pages.alter(2, 'x'), false);
        checks.due("cut(3)", pages.cut(3), false);
        checks.due("feed", pages.feed('x'), true);
        checks.due("page", Checks.pageOf(pages), "abx");
        checks.due("cut(0)", pages.cut(0), true);
        checks.due("length()", pages.length(), 0);
        checks.due("cut(0) once more", pages.cut(0), true);
        checks.due("cut(1)", pages.cut(1), false);
    }

    /** A long page by encode, for no object is promised to answer more than 512 calls. */
    private static void fullPage() {
        GraphPages pages = new GraphPages();
        for (int x = 0; x < 16; x++) {
            pages.make(1, 4);
            for (int k = 0; k < 4; k++) {
                pages.put(x, k, Integer.MIN_VALUE);
            }
            if (x > 0) {
                pages.link((x - 1) / 2, (x - 1) % 2 * 2, x);
                pages.link((x - 1) / 2, (x - 1) % 2 * 2 + 1, x);
            }
        }
        int start = pages.encode(0);
        checks.due("the page is long", start > 1250 && start < 1600, true);
        for (int p = start; p < 1600; p++) {
            checks.due("feed", pages.feed('z'), true);
        }
        checks.due("feed to a full page", pages.feed('z'), false);
        checks.due("length()", pages.length(), 1600);
        checks.due("charAt(1599)", pages.charAt(1599), 'z');
        checks.due("charAt(1600)", pages.charAt(1600), -1);
        checks.due("alter(1599)", pages.alter(1599, 'y'), true);
        checks.due("alter(1600)", pages.alter(1600, 'y'), false);
        checks.due("cut(1601)", pages.cut(1601), false);
        checks.due("decode", pages.decode(), GraphPages.FORM);
        checks.due("cut(1599)", pages.cut(1599), true);
        checks.due("feed again", pages.feed('x'), true);
        checks.due("feed to a full page", pages.feed('z'), false);
        checks.due("encode on a full page", pages.encode(0), start);
        pages.clear();
        checks.due("decode", pages.decode(), 0);
        checks.due("objects()", pages.objects(), 16);
    }
}
