/** Promise 11: two objects are alike when what is reached from them can be matched one to one. */
public final class AlikeTest {
    private static final Checks checks = new Checks();

    public static void main(String[] args) {
        itself();
        sameKindAndSize();
        sameCharacters();
        sameSlots();
        whatWasThereBeforeClear();
        onlyWhatIsReached();
        sharingIsLookedAt();
        sharingTheOtherWayRound();
        ringsOfDifferentLengths();
        overlappingGraphs();
        matchingCrossesTheTwoGraphs();
        longChains();
        allGraphsOfThreePairs();
        strangers();
        checks.end();
    }

    private static void both(Pages pages, String what, int x, int y, boolean want) {
        checks.due(what, pages.alike(x, y), want);
        checks.due(what + ", turned round", pages.alike(y, x), want);
    }

    private static void itself() {
        checks.sentence("matched one to one, x with y");
        Pages pages = new Pages();
        pages.makePair();
        pages.makeArray(4);
        pages.makeText("same");
        pages.link(0, 0, 1);
        pages.link(1, 3, 0);
        pages.link(1, 0, 2);
        for (int x = 0; x < 3; x++) {
            both(pages, "object " + x + " and itself", x, x, true);
        }
        both(pages, "an object and one that it holds", 0, 1, false);
    }

    private static void sameKindAndSize() {
        checks.sentence("matched objects have the same kind and size");
        Pages pages = new Pages();
        for (int n = 0; n < 2; n++) {
            pages.makePair();
            for (int size = 0; size <= 4; size++) {
                pages.makeArray(size);
            }
            pages.makeText("");
        }
        for (int x = 0; x < 7; x++) {
            for (int y = 0; y < 7; y++) {
                checks.due("alike(" + x + ", " + (y + 7) + ")", pages.alike(x, y + 7), x == y);
            }
        }
        Pages inside = new Pages();
        inside.makePairs(2);
        inside.makeArray(1);
        inside.makeArray(2);
        inside.link(0, 1, 2);
        inside.link(1, 1, 3);
        both(inside, "references to ARRAYs of one and two", 0, 1, false);
    }

    private static void sameCharacters() {
        checks.sentence("the same characters");
        String[] texts = {"", "a", "b", "ab", "ba", "aba", "abcdef", "abcdeg", "bbcdef", "abcde", " ", "  "};
        Pages pages = new Pages();
        for (String text : texts) {
            pages.makeText(text);
        }
        for (int x = 0; x < texts.length; x++) {
            for (int y = 0; y < texts.length; y++) {
                checks.due("TEXTs " + texts[x] + " and " + texts[y], pages.alike(x, y), x == y);
            }
        }
        pages.clear();
        int one = pages.makeText("abcdef");
        int other = pages.makeText("abcdef");
        both(pages, "equal TEXTs", one, other, true);
    }

    private static void sameSlots() {
        checks.sentence("in each slot both NOTHING, both the same int, or references to two matched objects");
        for (int k = 0; k < 4; k++) {
            Pages pages = new Pages();
            pages.makeArray(4);
            pages.makeArray(4);
            pages.makeText("t");
            pages.makeText("t");
            pages.makeText("u");
            both(pages, "both NOTHING", 0, 1, true);
            pages.put(0, k, 0);
            both(pages, "the int 0 and NOTHING", 0, 1, false);
            pages.put(1, k, 0);
            both(pages, "the same int", 0, 1, true);
            pages.put(1, k, 1);
            both(pages, "two ints", 0, 1, false);
            pages.put(0, k, 1 << 31);
            pages.put(1, k, 0);
            both(pages, "the least int and 0", 0, 1, false);
            pages.put(0, k, 2);
            pages.link(1, k, 2);
            both(pages, "an int and a reference of the same number", 0, 1, false);
            pages.link(0, k, -1);
            both(pages, "NOTHING and a reference", 0, 1, false);
            pages.link(0, k, 0);
            pages.link(1, k, -1);
            both(pages, "a reference to object 0 and NOTHING", 0, 1, false);
            pages.link(0, k, 2);
            pages.link(1, k, 2);
            both(pages, "references to one object", 0, 1, true);
            pages.link(1, k, 3);
            both(pages, "references to equal TEXTs", 0, 1, true);
            pages.link(1, k, 4);
            both(pages, "references to other TEXTs", 0, 1, false);
        }
    }

    private static void whatWasThereBeforeClear() {
        checks.sentence("the same characters, and in each slot");
        Pages pages = new Pages();
        pages.makeText("abcdef");
        pages.makeText("uvwxyz");
        for (int x = 2; x < 4; x++) {
            pages.makeArray(4);
            pages.put(x, 3, x);
        }
        pages.clear();
        pages.makeText("a");
        pages.makeText("a");
        pages.makeArray(3);
        pages.makeArray(3);
        both(pages, "TEXTs in the place of longer ones", 0, 1, true);
        both(pages, "ARRAYs in the place of longer ones", 2, 3, true);
    }

    private static void onlyWhatIsReached() {
        checks.sentence("whether what is reached from x and what is reached from y can be matched");
        Pages pages = new Pages();
        pages.makePairs(6);
        pages.link(0, 0, 2);
        pages.link(1, 0, 3);
        pages.link(4, 0, 2);
        pages.link(4, 1, 0);
        pages.put(5, 0, 9);
        both(pages, "two that others refer to differently", 0, 1, true);
        pages.put(3, 1, 9);
        both(pages, "a difference in what is reached", 0, 1, false);
    }

    private static void sharingIsLookedAt() {
        checks.sentence("matched one to one");
        Pages pages = new Pages();
        int one = pages.makePair();
        int two = pages.makePair();
        int a = pages.makeText("t");
        int b = pages.makeText("t");
        pages.link(one, 0, a);
        pages.link(one, 1, a);
        pages.link(two, 0, a);
        pages.link(two, 1, b);
        both(pages, "one TEXT twice and two TEXTs", one, two, false);
        pages.link(two, 0, b);
        both(pages, "one TEXT twice and another twice", one, two, true);
    }

    private static void sharingTheOtherWayRound() {
        checks.sentence("matched one to one");
        Pages pages = new Pages();
        int one = pages.makeArray(3);
        int two = pages.makeArray(3);
        int a = pages.makeArray(0);
        int b = pages.makeArray(0);
        int[] ones = {a, b, a};
        int[] twos = {a, b, b};
        for (int k = 0; k < 3; k++) {
            pages.link(one, k, ones[k]);
            pages.link(two, k, twos[k]);
        }
        both(pages, "aba and abb", one, two, false);
        pages.link(two, 0, b);
        pages.link(two, 1, a);
        both(pages, "aba and bab", one, two, true);
    }

    private static void ringsOfDifferentLengths() {
        checks.sentence("matched one to one");
        Pages pages = new Pages();
        pages.makePairs(8);
        int[] next = {0, 2, 1, 4, 5, 3, 7, 6};
        for (int x = 0; x < 8; x++) {
            pages.link(x, 0, next[x]);
        }
        both(pages, "rings of one and two", 0, 1, false);
        both(pages, "rings of two and three", 1, 3, false);
        both(pages, "rings of one and three", 0, 3, false);
        both(pages, "two places of one ring", 3, 4, true);
        both(pages, "two rings of two", 1, 7, true);
        pages.put(7, 1, 1);
        both(pages, "a ring with an int in it", 1, 7, false);
        both(pages, "two places of a ring with an int in it", 6, 7, false);
    }

    private static void overlappingGraphs() {
        checks.sentence("what is reached from x and what is reached from y");
        Pages pages = new Pages();
        int text = pages.makeText("");
        int one = pages.makePair();
        int two = pages.makePair();
        pages.link(one, 0, text);
        pages.link(two, 0, text);
        both(pages, "two that share their only part", one, two, true);
        pages.link(one, 1, two);
        both(pages, "one that holds the other", one, two, false);
        pages.link(two, 1, one);
        both(pages, "two that hold each other", one, two, true);
        pages.link(one, 1, one);
        both(pages, "one that holds itself, one that holds the other", one, two, false);
        pages.link(two, 1, two);
        both(pages, "two that hold themselves", one, two, true);
    }

    private static void matchingCrossesTheTwoGraphs() {
        checks.sentence("references to two matched objects");
        Pages pages = new Pages();
        int x = pages.makePair();
        int y = pages.makePair();
        int a = pages.makeArray(1);
        int b = pages.makeArray(1);
        pages.link(x, 0, a);
        pages.link(x, 1, b);
        pages.link(y, 0, b);
        pages.link(y, 1, a);
        both(pages, "the same two parts in turned order", x, y, true);
        pages.link(a, 0, b);
        both(pages, "one of the two parts refers to the other", x, y, false);
        pages.link(b, 0, a);
        both(pages, "the two parts refer to each other", x, y, true);
    }

    private static void longChains() {
        checks.sentence("what is reached from x and what is reached from y can be matched one to one");
        Pages pages = new Pages();
        pages.makePairs(16);
        for (int x = 0; x < 7; x++) {
            pages.link(x, 1, x + 1);
            pages.link(8 + x, 1, 8 + x + 1);
        }
        both(pages, "two chains of eight", 0, 8, true);
        both(pages, "chains of eight and seven", 0, 9, false);
        pages.put(15, 0, 3);
        both(pages, "two chains with another end", 0, 8, false);
        pages.put(7, 0, 3);
        pages.link(7, 1, 0);
        pages.link(15, 1, 8);
        both(pages, "two rings of eight", 0, 8, true);
        pages.link(15, 1, 9);
        both(pages, "a ring and a ring with a tail", 0, 8, false);
        for (int x = 0; x < 16; x++) {
            pages.put(x, 0, 0);
            pages.link(x, 1, (x + 1) % 16);
        }
        both(pages, "two places of a ring of sixteen", 0, 15, true);
        pages.put(7, 0, 1);
        both(pages, "two places of a ring of sixteen with one other int", 0, 15, false);
    }

    /** Every graph of three PAIRs whose slots hold NOTHING, 0 or a reference, against all matchings. */
    private static void allGraphsOfThreePairs() {
        checks.sentence("can be matched one to one, x with y, so that matched objects have .. in each slot");
        int[] slots = new int[6];
        for (int drawn = 0; drawn < 15625; drawn++) {
            Pages pages = new Pages();
            pages.makePairs(3);
            int rest = drawn;
            for (int i = 0; i < 6; i++) {
                slots[i] = rest % 5 - 2;
                rest /= 5;
                if (slots[i] == -2) {
                    pages.put(i / 2, i % 2, 0);
                } else {
                    pages.link(i / 2, i % 2, slots[i]);
                }
            }
            for (int i = 0; i < 9; i++) {
                checks.due("alike(" + i / 3 + ", " + i % 3 + ") of graph " + drawn, pages.alike(i / 3, i % 3),
                    canBeMatched(slots, i / 3, i % 3));
            }
        }
    }

    private static boolean canBeMatched(int[] slots, int x, int y) {
        int from = reached(slots, x);
        int to = reached(slots, y);
        // A matching is three digits of base 4, 3 for an object that has no partner.
        for (int matching = 0; matching < 64; matching++) {
            int[] partners = {matching % 4, matching / 4 % 4, matching / 16};
            if (partners[x] == y && isOneToOne(partners, from, to) && keepsSlots(partners, slots)) {
                return true;
            }
        }
        return false;
    }

    private static int reached(int[] slots, int x) {
        int set = 1 << x;
        for (int round = 0; round < 3; round++) {
            for (int i = 0; i < 6; i++) {
                set |= (set >> i / 2 & 1) == 1 && slots[i] >= 0 ? 1 << slots[i] : 0;
            }
        }
        return set;
    }

    private static boolean isOneToOne(int[] partners, int from, int to) {
        int taken = 0;
        for (int x = 0; x < 3; x++) {
            boolean hasPartner = partners[x] != 3;
            if (hasPartner != ((from >> x & 1) == 1) || hasPartner && (taken >> partners[x] & 1) == 1) {
                return false;
            }
            taken |= hasPartner ? 1 << partners[x] : 0;
        }
        return taken == to;
    }

    private static boolean keepsSlots(int[] partners, int[] slots) {
        for (int i = 0; i < 6; i++) {
            if (partners[i / 2] != 3) {
                int held = slots[i];
                int partnerHeld = slots[partners[i / 2] * 2 + i % 2];
                if (partnerHeld != (held >= 0 ? partners[held] : held)) {
                    return false;
                }
            }
        }
        return true;
    }

    private static Pages two() {
        return Pages.after(pages -> {
            pages.makePairs(2);
            pages.link(0, 1, 0);
            pages.link(1, 1, 1);
            pages.understand(5, true);
            pages.feedAll("page");
        });
    }

    private static void strangers() {
        checks.sentence("False when x or y is not the number of an object.");
        for (int x : new int[] {Integer.MIN_VALUE, -2, -1, 2, 3, 15, 16, Integer.MAX_VALUE}) {
            checks.refused("alike(" + x + ", 0)", AlikeTest::two, p -> p.alike(x, 0));
            checks.refused("alike(0, " + x + ")", AlikeTest::two, p -> p.alike(0, x));
            checks.refused("alike(" + x + ", " + x + ")", AlikeTest::two, p -> p.alike(x, x));
        }
        checks.due("alike(0, 1)", two().alike(0, 1), true);
        checks.changesNothing("alike(0, 1)", AlikeTest::two, p -> p.alike(0, 1) ? 1 : 0, 1);
        checks.refused("alike(0, 0) of no objects", Pages::new, p -> p.alike(0, 0));
        Pages removed = two();
        removed.clear();
        checks.due("alike of removed ones", removed.alike(0, 1), false);
    }
}
