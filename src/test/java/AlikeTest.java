/** Promise 11: two objects are alike when what is reached from them can be matched one to one. */
public final class AlikeTest {
    private static final Checks checks = new Checks();

    public static void main(String[] args) {
        plainOnes();
        whatWasThereBeforeClear();
        sharingIsLookedAt();
        sharingTheOtherWayRound();
        ringsOfDifferentLengths();
        overlappingGraphs();
        matchingCrossesTheTwoGraphs();
        longChains();
        checks.end();
    }

    private static void both(GraphPages pages, String what, int x, int y, boolean want) {
        checks.due(what, pages.alike(x, y), want);
        checks.due(what + ", turned round", pages.alike(y, x), want);
    }

    private static void plainOnes() {
        GraphPages pages = new GraphPages();
        int pair = pages.make(0, 0);
        int arrayOfTwo = pages.make(1, 2);
        int arrayOfThree = pages.make(1, 3);
        int otherPair = pages.make(0, 0);
        int empty = pages.make(2, 0);
        int arrayOfNone = pages.make(1, 0);
        int ab = Checks.makeText(pages, "ab");
        int otherAb = Checks.makeText(pages, "ab");
        int ac = Checks.makeText(pages, "ac");
        int abc = Checks.makeText(pages, "abc");
        both(pages, "an object and itself", pair, pair, true);
        both(pages, "two empty PAIRs", pair, otherPair, true);
        both(pages, "PAIR and ARRAY of two", pair, arrayOfTwo, false);
        both(pages, "ARRAYs of two and three", arrayOfTwo, arrayOfThree, false);
        both(pages, "empty TEXT and ARRAY of none", empty, arrayOfNone, false);
        both(pages, "equal TEXTs", ab, otherAb, true);
        both(pages, "TEXTs with another last character", ab, ac, false);
        both(pages, "TEXTs with another first character", ab, Checks.makeText(pages, "bb"), false);
        both(pages, "TEXTs of other lengths", ab, abc, false);
        pages.put(pair, 1, 0);
        both(pages, "the int 0 and NOTHING", pair, otherPair, false);
        pages.put(otherPair, 1, 0);
        both(pages, "the same int", pair, otherPair, true);
        pages.put(otherPair, 1, 1);
        both(pages, "another int", pair, otherPair, false);
        pages.put(pair, 1, ab);
        pages.link(otherPair, 1, ab);
        both(pages, "an int and a reference of the same number", pair, otherPair, false);
        pages.link(pair, 1, otherAb);
        both(pages, "references to equal TEXTs", pair, otherPair, true);
        pages.link(pair, 1, ac);
        both(pages, "references to other TEXTs", pair, otherPair, false);
    }

    private static void whatWasThereBeforeClear() {
        GraphPages pages = new GraphPages();
        Checks.makeText(pages, "abcdef");
        Checks.makeText(pages, "uvwxyz");
        for (int x = 2; x < 4; x++) {
            pages.make(1, 4);
            pages.put(x, 3, x);
        }
        pages.clear();
        Checks.makeText(pages, "a");
        Checks.makeText(pages, "a");
        pages.make(1, 3);
        pages.make(1, 3);
        both(pages, "TEXTs in the place of longer ones", 0, 1, true);
        both(pages, "ARRAYs in the place of longer ones", 2, 3, true);
    }

    private static void sharingIsLookedAt() {
        GraphPages pages = new GraphPages();
        int one = pages.make(0, 0);
        int two = pages.make(0, 0);
        int a = Checks.makeText(pages, "t");
        int b = Checks.makeText(pages, "t");
        pages.link(one, 0, a);
        pages.link(one, 1, a);
        pages.link(two, 0, a);
        pages.link(two, 1, b);
        both(pages, "one TEXT twice and two TEXTs", one, two, false);
        pages.link(two, 0, b);
        both(pages, "one TEXT twice and another twice", one, two, true);
    }

    private static void sharingTheOtherWayRound() {
        GraphPages pages = new GraphPages();
        int one = pages.make(1, 3);
        int two = pages.make(1, 3);
        int a = pages.make(1, 0);
        int b = pages.make(1, 0);
        int[] ones = {a, b, a};
        int[] twos = {a, b, b};
        for (int k = 0; k < 3; k++) {
            pages.link(one, k, ones[k]);
            pages.link(two, k, twos[k]);
        }
        both(pages, "aba and abb", one, two, false);
        pages.link(two, 0, b);
        pages.link(two, 1, a);
        both(pages, "aba and bab", one, two, true);
    }

    private static void ringsOfDifferentLengths() {
        GraphPages pages = new GraphPages();
        for (int x = 0; x < 8; x++) {
            pages.make(0, 0);
        }
        int[] next = {0, 2, 1, 4, 5, 3, 7, 6};
        for (int x = 0; x < 8; x++) {
            pages.link(x, 0, next[x]);
        }
        both(pages, "rings of one and two", 0, 1, false);
        both(pages, "rings of two and three", 1, 3, false);
        both(pages, "rings of one and three", 0, 3, false);
        both(pages, "two places of one ring", 3, 4, true);
        both(pages, "two rings of two", 1, 7, true);
        pages.put(7, 1, 1);
        both(pages, "a ring with an int in it", 1, 7, false);
        both(pages, "two places of a ring with an int in it", 6, 7, false);
    }

    private static void overlappingGraphs() {
        GraphPages pages = new GraphPages();
        int text = Checks.makeText(pages, "");
        int one = pages.make(0, 0);
        int two = pages.make(0, 0);
        pages.link(one, 0, text);
        pages.link(two, 0, text);
        both(pages, "two that share their only part", one, two, true);
        pages.link(one, 1, two);
        both(pages, "one that holds the other", one, two, false);
        pages.link(two, 1, one);
        both(pages, "two that hold each other", one, two, true);
        pages.link(one, 1, one);
        both(pages, "one that holds itself, one that holds the other", one, two, false);
        pages.link(two, 1, two);
        both(pages, "two that hold themselves", one, two, true);
    }

    private static void matchingCrossesTheTwoGraphs() {
        GraphPages pages = new GraphPages();
        int x = pages.make(0, 0);
        int y = pages.make(0, 0);
        int a = pages.make(1, 0);
        int b = pages.make(1, 0);
        pages.link(x, 0, a);
        pages.link(x, 1, b);
        pages.link(y, 0, b);
        pages.link(y, 1, a);
        both(pages, "the same two parts in turned order", x, y, true);
        pages.link(a, 0, b);
        both(pages, "an ARRAY of none takes no reference", x, y, true);
    }

    private static void longChains() {
        GraphPages pages = new GraphPages();
        for (int x = 0; x < 16; x++) {
            pages.make(0, 0);
        }
        for (int x = 0; x < 7; x++) {
            pages.link(x, 1, x + 1);
            pages.link(8 + x, 1, 8 + x + 1);
        }
        both(pages, "two chains of eight", 0, 8, true);
        both(pages, "chains of eight and seven", 0, 9, false);
        pages.put(15, 0, 3);
        both(pages, "two chains with another end", 0, 8, false);
        pages.put(7, 0, 3);
        pages.link(7, 1, 0);
        pages.link(15, 1, 8);
        both(pages, "two rings of eight", 0, 8, true);
        pages.link(15, 1, 9);
        both(pages, "a ring and a ring with a tail", 0, 8, false);
    }
}
