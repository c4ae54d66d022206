/**
 * The graph with the longest page: sixteen ARRAYs of four slots, all shared by as few references as
 * that takes (an id and its references are longer than the one slot that they cost), and the least int
 * in all other slots.
 */
final class Longest {
    static final int LENGTH = 1275;

    private Longest() {
    }

    /** The number of the object that slot k of object x refers to; -1 when it holds the least int. */
    static int target(int x, int k) {
        int child = x * 2 + 1 + k / 2;
        return child < 16 ? child : x == 15 && k == 3 ? 0 : -1;
    }

    static void make(Pages pages) {
        for (int x = 0; x < 16; x++) {
            pages.makeArray(4);
        }
        for (int x = 0; x < 16; x++) {
            for (int k = 0; k < 4; k++) {
                if (target(x, k) >= 0) {
                    pages.link(x, k, target(x, k));
                } else {
                    pages.put(x, k, Integer.MIN_VALUE);
                }
            }
        }
    }

    /** Ids are one more than numbers here, for the references stand in the order of the numbers. */
    static String page() {
        StringBuilder row = new StringBuilder("<e v=\"1\"><b><r h=\"1\"/>");
        for (int x = 0; x < 16; x++) {
            row.append("<a id=\"").append(x + 1).append("\" n=\"4\">");
            for (int k = 0; k < 4; k++) {
                row.append(target(x, k) < 0 ? "<i>-2147483648</i>" : "<r h=\"" + (target(x, k) + 1) + "\"/>");
            }
            row.append("</a>");
        }
        return row.append("</b></e>").toString();
    }
}
