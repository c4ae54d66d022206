import java.util.function.BiPredicate;

/** Promises 16 to 21: the keys, and the page character by character. */
public final class PageTest {
    private static final int LEAST = Integer.MIN_VALUE;
    private static final int MOST = Integer.MAX_VALUE;
    private static final Checks checks = new Checks();

    public static void main(String[] args) {
        understandChanges();
        understandNoChange();
        understandKeys();
        length();
        charAtPlaces();
        feedAppends();
        feedCodes();
        alterPlaces();
        alterCodes();
        cutKeeps();
        cutPlaces();
        whatWasCutIsGone();
        fullPage();
        fullPageAndCut();
        checks.end();
    }

    private static Pages some() {
        return Pages.after(pages -> {
            pages.makePair();
            pages.makeText("t");
            pages.link(0, 1, 1);
            pages.understand(0, true);
            pages.understand(7, true);
            pages.feedAll("abc");
        });
    }

    // Promise 16

    private static void understandChanges() {
        checks.sentence("Key k is understood from now on, or is not. Answers whether that changed something");
        for (int k = 0; k < 32; k++) {
            Pages pages = new Pages();
            checks.due("understand(" + k + ", true)", pages.understand(k, true), true);
            checks.due("keys", pages.takeKeys(), Integer.toString(k));
            checks.due("understand(" + k + ", true)", pages.understand(k, true), true);
            checks.due("understand(" + k + ", false)", pages.understand(k, false), true);
            checks.due("keys", pages.takeKeys(), "");
        }
        Pages all = new Pages();
        for (int k = 0; k < 32; k++) {
            all.understand(k, true);
        }
        checks.due("understand(30, false) of all", all.understand(30, false), true);
        checks.due("understand(31, true) of all", all.understand(31, true), false);
        checks.due("understand(29, true) of all", all.understand(29, true), false);
        checks.due("understand(30, true) of all", all.understand(30, true), true);
    }

    private static void understandNoChange() {
        checks.sentence("false when it was so already");
        for (int k = 0; k < 32; k++) {
            int key = k;
            boolean understood = k == 0 || k == 7;
            checks.refused("understand(" + k + ", " + understood + ")", PageTest::some, p -> p.understand(key, understood));
        }
    }

    private static void understandKeys() {
        checks.sentence("false when k is not 0 .. 31");
        for (int k : new int[] {LEAST, -32, -2, -1, 32, 33, 39, 64, MOST}) {
            checks.refused("understand(" + k + ", true)", PageTest::some, p -> p.understand(k, true));
            checks.refused("understand(" + k + ", false)", PageTest::some, p -> p.understand(k, false));
        }
        checks.due("understand(0, true)", new Pages().understand(0, true), true);
        checks.due("understand(31, true)", new Pages().understand(31, true), true);
    }

    // Promises 17 and 18

    private static void length() {
        checks.sentence("The length of the page.");
        Pages pages = new Pages();
        for (int n = 0; n <= 100; n++) {
            checks.due("length()", pages.length(), n);
            pages.feed('x');
        }
        pages.alter(3, 'y');
        checks.due("length() after alter", pages.length(), 101);
        pages.cut(40);
        checks.due("length() after cut(40)", pages.length(), 40);
        pages.make(2, 0);
        checks.due("encode(0)", pages.encode(0), 27);
        checks.due("length() after encode(0)", pages.length(), 27);
        pages.decode();
        checks.due("length() after decode()", pages.length(), 27);
    }

    private static void charAtPlaces() {
        checks.sentence("The code of the character at place p of the page; -1 when there is none.");
        for (int p = 0; p < 3; p++) {
            checks.due("charAt(" + p + ")", some().charAt(p), 'a' + p);
        }
        for (int p : new int[] {LEAST, -2, -1, 3, 4, 1599, 1600, 1601, MOST}) {
            checks.changesNothing("charAt(" + p + ")", PageTest::some, pages -> pages.charAt(p), -1);
        }
        checks.due("charAt(0) of an empty page", new Pages().charAt(0), -1);
    }

    // Promise 19

    private static void feedAppends() {
        checks.sentence("Appends a character to the page and answers true");
        Pages pages = new Pages();
        for (int n = 1; n <= 20; n++) {
            checks.due("feed", pages.feed((char) ('a' + n)), true);
            checks.due("page", pages.page(), "bcdefghijklmnopqrstuv".substring(0, n));
        }
    }

    private static void feedCodes() {
        checks.sentence("false when c is not 32 .. 126");
        takesCodes("feed", "abc", (pages, c) -> pages.feed(c), "abc");
        for (int code : new int[] {31, 127}) {
            checks.refused("feed((char) " + code + ")", PageTest::some, p -> p.feed((char) code));
        }
    }

    /** All codes of a char are tried; those that are taken become the last character of the page. */
    private static void takesCodes(String call, String start, BiPredicate<Pages, Character> made, String kept) {
        for (int code = 32; code <= 126; code++) {
            Pages pages = Pages.withPage(start);
            checks.due(call + " of " + code, made.test(pages, (char) code), true);
            checks.due("page", pages.page(), kept + (char) code);
        }
        Pages pages = Pages.withPage(start);
        for (int code = 0; code <= 65535; code++) {
            if (pages.callsLeft() < 20) {
                checks.due("page", pages.page(), start);
                pages = Pages.withPage(start);
            }
            if (code < 32 || code > 126) {
                checks.due(call + " of " + code, made.test(pages, (char) code), false);
            }
        }
        checks.due("page", pages.page(), start);
    }

    // Promise 20

    private static void alterPlaces() {
        checks.sentence("The character at place p of the page becomes c; answers true; false when there is no such place");
        String[] want = {"xbc", "axc", "abx"};
        for (int p = 0; p < 3; p++) {
            Pages pages = some();
            checks.due("alter(" + p + ", x)", pages.alter(p, 'x'), true);
            checks.due("page", pages.page(), want[p]);
        }
        checks.due("alter to the same", some().alter(1, 'b'), true);
        for (int p : new int[] {LEAST, -2, -1, 3, 4, 1599, 1600, MOST}) {
            checks.refused("alter(" + p + ", x)", PageTest::some, pages -> pages.alter(p, 'x'));
        }
        checks.refused("alter(0, x) of an empty page", Pages::new, pages -> pages.alter(0, 'x'));
    }

    private static void alterCodes() {
        checks.sentence("false when .. c is not 32 .. 126");
        takesCodes("alter", "abc", (pages, c) -> pages.alter(2, c), "ab");
        for (int code : new int[] {31, 127}) {
            checks.refused("alter(1, (char) " + code + ")", PageTest::some, p -> p.alter(1, (char) code));
        }
    }

    // Promise 21

    private static void cutKeeps() {
        checks.sentence("Keeps the first n characters of the page and answers true");
        for (int n = 0; n <= 3; n++) {
            Pages pages = some();
            checks.due("cut(" + n + ")", pages.cut(n), true);
            checks.due("page", pages.page(), "abc".substring(0, n));
            checks.due("graph", pages.graph(), "P[- @1] T(t)");
            checks.due("keys", pages.takeKeys(), "0 7");
        }
    }

    private static void cutPlaces() {
        checks.sentence("false when n is not 0 .. length()");
        for (int n : new int[] {LEAST, -2, -1, 4, 5, 1600, 1601, MOST}) {
            checks.refused("cut(" + n + ")", PageTest::some, pages -> pages.cut(n));
        }
        checks.due("cut(0) of an empty page", new Pages().cut(0), true);
        checks.refused("cut(1) of an empty page", Pages::new, pages -> pages.cut(1));
    }

    private static void whatWasCutIsGone() {
        checks.sentence("Keeps the first n characters of the page");
        Pages pages = some();
        pages.cut(1);
        checks.due("charAt(0)", pages.charAt(0), 'a');
        checks.due("charAt(1)", pages.charAt(1), -1);
        checks.due("alter(1, x)", pages.alter(1, 'x'), false);
        checks.due("cut(2)", pages.cut(2), false);
        checks.due("feed(z)", pages.feed('z'), true);
        checks.due("page", pages.page(), "az");
        checks.due("charAt(2)", pages.charAt(2), -1);
        Pages read = Pages.withPage("<e v=\"1\"><b><t/></b></e>");
        read.cut(23);
        checks.due("decode() of a page without its last character", read.decode(), GraphPages.FORM);
        read.feed('>');
        checks.due("decode()", read.decode(), 0);
    }

    // The page's bound

    /** The longest page that can be written, and characters up to the page's bound. */
    private static Pages full() {
        Pages pages = new Pages();
        Longest.make(pages);
        pages.encode(0);
        for (int p = Longest.LENGTH; p < 1600; p++) {
            checks.due("feed at place " + p, pages.feed('z'), true);
        }
        return pages;
    }

    private static void fullPage() {
        checks.sentence("The PAGE is a row of at most 1600 characters / false when .. the page is full");
        Pages pages = full();
        checks.due("length()", pages.length(), 1600);
        checks.due("feed to a full page", pages.feed('y'), false);
        checks.due("length()", pages.length(), 1600);
        checks.due("charAt(1599)", pages.charAt(1599), 'z');
        checks.due("charAt(1600)", pages.charAt(1600), -1);
        checks.due("charAt(0)", pages.charAt(0), '<');
        checks.due("alter(1600, y)", pages.alter(1600, 'y'), false);
        checks.due("alter(1599, y)", pages.alter(1599, 'y'), true);
        checks.due("charAt(1599)", pages.charAt(1599), 'y');
        checks.due("charAt(1598)", pages.charAt(1598), 'z');
        checks.due("decode()", pages.decode(), GraphPages.FORM);
        checks.due("objects()", pages.objects(), 16);
    }

    private static void fullPageAndCut() {
        checks.sentence("Keeps the first n characters of the page");
        Pages pages = full();
        checks.due("cut(1601)", pages.cut(1601), false);
        checks.due("cut(1600)", pages.cut(1600), true);
        checks.due("length()", pages.length(), 1600);
        checks.due("cut(1599)", pages.cut(1599), true);
        checks.due("feed(x)", pages.feed('x'), true);
        checks.due("charAt(1599)", pages.charAt(1599), 'x');
        checks.due("feed to a full page", pages.feed('y'), false);
        checks.due("encode(15) on a full page", pages.encode(15) > 0, true);
        checks.due("feed after it", pages.feed('y'), true);
        checks.due("cut(0)", pages.cut(0), true);
        checks.due("length()", pages.length(), 0);
    }
}
