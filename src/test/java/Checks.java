/** Counts the answers of a test that are not the ones that are due, and holds what the tests share. */
final class Checks {
    private int done = 0;
    private int wrong = 0;

    void due(String call, long got, long want) {
        due(call, Long.toString(got), Long.toString(want));
    }

    void due(String call, boolean got, boolean want) {
        due(call, Boolean.toString(got), Boolean.toString(want));
    }

    void due(String call, String got, String want) {
        done++;
        if (!got.equals(want)) {
            wrong++;
            System.out.println(call + " answered " + got + ", due is " + want);
        }
    }

    void end() {
        System.out.println(wrong == 0 ? done + " answers are as due" : wrong + " answers are not as due");
        if (wrong != 0) {
            System.exit(1);
        }
    }

    static GraphPages withPage(String page) {
        GraphPages pages = new GraphPages();
        feedAll(pages, page);
        return pages;
    }

    static void feedAll(GraphPages pages, String page) {
        for (int i = 0; i < page.length(); i++) {
            if (!pages.feed(page.charAt(i))) {
                throw new IllegalStateException("feed refused place " + i + " of " + page);
            }
        }
    }

    static void replacePage(GraphPages pages, String page) {
        pages.cut(0);
        feedAll(pages, page);
    }

    static int makeText(GraphPages pages, String characters) {
        int x = pages.make(2, 0);
        for (int i = 0; i < characters.length(); i++) {
            pages.type(x, characters.charAt(i));
        }
        return x;
    }

    static String pageOf(GraphPages pages) {
        StringBuilder row = new StringBuilder();
        for (int p = 0; p < pages.length(); p++) {
            row.append((char) pages.charAt(p));
        }
        return row.toString();
    }

    /** One object as a row: P, A or T, then [slots] or (characters); a reference is written @number. */
    static String show(GraphPages pages, int x) {
        StringBuilder row = new StringBuilder();
        int kind = pages.kind(x);
        row.append(kind < 0 ? "none" : kind == 0 ? "P" : kind == 1 ? "A" : "T");
        if (kind == 2) {
            row.append('(');
            for (int k = 0; k < pages.size(x); k++) {
                row.append((char) pages.value(x, k));
            }
            return row.append(')').toString();
        }
        row.append('[');
        for (int k = 0; k < pages.size(x); k++) {
            row.append(k > 0 ? " " : "");
            int holds = pages.holds(x, k);
            row.append(holds == 0 ? "-" : holds == 1 ? "" : "@");
            row.append(holds == 0 ? "" : Integer.toString(pages.value(x, k)));
        }
        return row.append(']').toString();
    }

    /** All objects and the page: what a refused call must leave as it was. */
    static String state(GraphPages pages) {
        return graph(pages) + "| " + pageOf(pages);
    }

    static String graph(GraphPages pages) {
        StringBuilder row = new StringBuilder();
        for (int x = 0; x < pages.objects(); x++) {
            row.append(show(pages, x)).append(' ');
        }
        return row.toString().trim();
    }
}
