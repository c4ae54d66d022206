import java.util.Set;
import java.util.TreeSet;

/** What the tests of promise 14 share: pages are read beside objects and keys that are there already. */
final class Reading {
    private static final String OWN = "P[@1 -7] T(own)";
    private static final String OWN_PAGE = inBody("<p><t>own</t><i>-7</i></p>");
    private static final int OWN_KEY = 29;

    private final Checks checks;

    Reading(Checks checks) {
        this.checks = checks;
    }

    static String inBody(String elements) {
        return "<e v=\"1\"><b>" + elements + "</b></e>";
    }

    /** The page has that fault, and reading it changes nothing. */
    void fault(String page, int want, int... keys) {
        Pages pages = new Pages();
        makeOwn(pages, keys);
        pages.feedAll(page);
        checks.due(page, pages.decode(), want);
        checks.due("objects after " + page, pages.graph(), OWN);
        checks.due("the page stays: " + page, pages.shows(page, 100), true);
        checks.due("once more " + page, pages.decode(), want);
        checkKeys(pages, page, keys);
        checks.due("an ARRAY that is made after " + page, pages.makeArray(4), 2);
        checks.due("its slots", pages.show(2), "A[- - - -]");
        checks.due("a TEXT that is made after " + page, pages.make(2, 0), 3);
        checks.due("its characters", pages.show(3), "T()");
        checks.due("written after " + page, pages.encode(0), OWN_PAGE.length());
        checks.due("the page that is written after " + page, pages.shows(OWN_PAGE, 0), true);
    }

    void contentFault(String elements) {
        fault(inBody(elements), GraphPages.CONTENT);
    }

    /** The page has no fault and becomes that graph, numbered from 0, and nothing else changes. */
    void graph(String page, int wantRoot, String wantGraph, int... keys) {
        Pages pages = new Pages();
        for (int key : keys) {
            pages.understand(key, true);
        }
        pages.understand(OWN_KEY, true);
        pages.feedAll(page);
        checks.due(page, pages.decode(), wantRoot);
        checks.due("graph of " + page, pages.graph(), wantGraph);
        checks.due("the page stays: " + page, pages.shows(page, 40), true);
        checkKeys(pages, page, keys);
    }

    void content(String elements, int wantRoot, String wantGraph) {
        graph(inBody(elements), wantRoot, wantGraph);
    }

    /** The page is well formed just when reading it finds another fault than FORM, or none. */
    void wellFormed(String page) {
        Pages pages = Pages.withPage(page);
        checks.due(page + " is well formed", pages.decode() != GraphPages.FORM, true);
        checks.due("the page stays: " + page, pages.shows(page, 0), true);
    }

    void notWellFormed(String page) {
        fault(page, GraphPages.FORM);
    }

    private static void makeOwn(Pages pages, int... keys) {
        pages.makePair();
        pages.makeText("own");
        pages.link(0, 0, 1);
        pages.put(0, 1, -7);
        for (int key : keys) {
            pages.understand(key, true);
        }
        pages.understand(OWN_KEY, true);
    }

    private void checkKeys(Pages pages, String page, int... keys) {
        Set<Integer> want = new TreeSet<>(Set.of(OWN_KEY));
        for (int key : keys) {
            want.add(key);
        }
        checks.due("the keys after " + page, pages.takeKeys(), want.toString().replaceAll("[^0-9 ]", ""));
    }
}
