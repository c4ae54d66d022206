import java.util.function.Predicate;
import java.util.function.Supplier;
import java.util.function.ToIntFunction;

/** All promises: a call that is refused, finds a fault or only looks changes nothing, in any state. */
public final class UnchangedTest {
    private static final int[] EXTREMES = {Integer.MIN_VALUE, -17, -2, Integer.MAX_VALUE, Integer.MAX_VALUE - 1};
    private static final Checks checks = new Checks();

    public static void main(String[] args) {
        checks.sentence("A call that is refused, or that finds a fault, changes nothing.");
        refusedInAnyState("a new object", Pages::new);
        refusedInAnyState("some objects", UnchangedTest::some);
        refusedInAnyState("sixteen objects", UnchangedTest::sixteen);
        refusedWithSomeObjects();
        refusedWithSixteenObjects();
        refusedWithoutObjects();
        faults();
        faultsWithSixteenObjects();
        faultsAfterAReading();
        looks();
        checks.end();
    }

    private static Pages some() {
        return Pages.after(pages -> {
            pages.makePair();
            pages.makeArray(3);
            pages.makeText("sixsix");
            pages.makeText("two");
            pages.link(0, 0, 1);
            pages.link(0, 1, 2);
            pages.link(1, 2, 2);
            pages.put(1, 0, -4);
            pages.understand(0, true);
            pages.understand(31, true);
            pages.feedAll("<e v=\"1\"><b><t/>");
        });
    }

    private static Pages sixteen() {
        return Pages.after(pages -> {
            pages.makePairs(14);
            pages.makeArray(4);
            pages.makeText("last");
            pages.link(0, 0, 15);
            pages.link(0, 1, 13);
            pages.understand(17, true);
            pages.feedAll("<e v=\"1\"><b><t/></b></e>");
        });
    }

    private static void unchanged(String call, Supplier<Pages> maker, int want, ToIntFunction<Pages> made) {
        checks.changesNothing(call, maker, made, want);
    }

    private static void refused(String call, Supplier<Pages> maker, Predicate<Pages> made) {
        checks.refused(call, maker, made);
    }

    private static void refusedInAnyState(String state, Supplier<Pages> maker) {
        String of = " of " + state;
        for (int far : EXTREMES) {
            unchanged("make(" + far + ", 2)" + of, maker, -1, p -> p.make(far, 2));
            unchanged("make(1, " + far + ")" + of, maker, -1, p -> p.make(1, far));
            refused("type(" + far + ", a)" + of, maker, p -> p.type(far, 'a'));
            refused("put(" + far + ", 0, 1)" + of, maker, p -> p.put(far, 0, 1));
            refused("put(0, " + far + ", 1)" + of, maker, p -> p.put(0, far, 1));
            refused("link(" + far + ", 0, 0)" + of, maker, p -> p.link(far, 0, 0));
            refused("link(0, " + far + ", 0)" + of, maker, p -> p.link(0, far, 0));
            refused("link(0, 0, " + far + ")" + of, maker, p -> p.link(0, 0, far));
            refused("alike(" + far + ", " + far + ")" + of, maker, p -> p.alike(far, far));
            unchanged("shared(" + far + ")" + of, maker, -1, p -> p.shared(far));
            unchanged("encode(" + far + ")" + of, maker, -1, p -> p.encode(far));
            refused("understand(" + far + ", true)" + of, maker, p -> p.understand(far, true));
            refused("understand(" + far + ", false)" + of, maker, p -> p.understand(far, false));
            refused("alter(" + far + ", a)" + of, maker, p -> p.alter(far, 'a'));
            refused("cut(" + far + ")" + of, maker, p -> p.cut(far));
        }
        for (int code : new int[] {0, 31, 127, 65535}) {
            refused("feed " + code + of, maker, p -> p.feed((char) code));
            refused("alter(0, " + code + ")" + of, maker, p -> p.alter(0, (char) code));
            refused("type(2, " + code + ")" + of, maker, p -> p.type(2, (char) code));
            refused("type(15, " + code + ")" + of, maker, p -> p.type(15, (char) code));
        }
    }

    private static void refusedWithSomeObjects() {
        Supplier<Pages> maker = UnchangedTest::some;
        refused("type to a PAIR", maker, p -> p.type(0, 'a'));
        refused("type to an ARRAY", maker, p -> p.type(1, 'a'));
        refused("type to a full TEXT", maker, p -> p.type(2, 'a'));
        refused("type behind the last", maker, p -> p.type(4, 'a'));
        refused("put beyond a PAIR", maker, p -> p.put(0, 2, 1));
        refused("put beyond an ARRAY", maker, p -> p.put(1, 3, 1));
        refused("put into a TEXT", maker, p -> p.put(2, 0, 1));
        refused("put behind the last", maker, p -> p.put(4, 0, 1));
        refused("link beyond a PAIR", maker, p -> p.link(0, 2, 1));
        refused("link beyond an ARRAY", maker, p -> p.link(1, 3, -1));
        refused("link from a TEXT", maker, p -> p.link(3, 0, 1));
        refused("link to one behind the last", maker, p -> p.link(0, 0, 4));
        refused("link of NOTHING behind the last", maker, p -> p.link(4, 0, -1));
        unchanged("encode of one behind the last", maker, -1, p -> p.encode(4));
        refused("understand(0, true) again", maker, p -> p.understand(0, true));
        refused("understand(31, true) again", maker, p -> p.understand(31, true));
        refused("understand(1, false)", maker, p -> p.understand(1, false));
        refused("alter behind the page", maker, p -> p.alter(16, 'a'));
        refused("cut behind the page", maker, p -> p.cut(17));
    }

    private static void refusedWithSixteenObjects() {
        Supplier<Pages> maker = UnchangedTest::sixteen;
        for (int kind = 0; kind <= 2; kind++) {
            int k = kind;
            unchanged("make(" + k + ", 4) of a seventeenth", maker, -1, p -> p.make(k, 4));
        }
        refused("type to a seventeenth", maker, p -> p.type(16, 'a'));
        refused("put into a seventeenth", maker, p -> p.put(16, 0, 1));
        refused("link to a seventeenth", maker, p -> p.link(0, 0, 16));
        unchanged("encode of a seventeenth", maker, -1, p -> p.encode(16));
    }

    private static void refusedWithoutObjects() {
        refused("type(0, a)", Pages::new, p -> p.type(0, 'a'));
        refused("put(0, 0, 1)", Pages::new, p -> p.put(0, 0, 1));
        refused("link(0, 0, 0)", Pages::new, p -> p.link(0, 0, 0));
        refused("link(0, 0, -1)", Pages::new, p -> p.link(0, 0, -1));
        unchanged("encode(0)", Pages::new, -1, p -> p.encode(0));
        unchanged("decode()", Pages::new, GraphPages.FORM, Pages::decode);
        refused("alter(0, a)", Pages::new, p -> p.alter(0, 'a'));
        refused("cut(1)", Pages::new, p -> p.cut(1));
    }

    /** Each page has much that is sound before its fault. */
    private static final String[] FAULTS = {
        "<e v=\"1\"><b><p><i>1</i><t>abcdef</t></p></b></e",
        "<e v=\"1\"><b><p><i>1</i><t>abcdef</t></p></b></e> ",
        "<e v=\"2\"><b><p><i>1</i><t>abcdef</t></p></b></e>",
        "<e v=\"1\"><h m=\"1\" k=\"5\"/><b><p><i>1</i><t>abc</t></p></b></e>",
        "<e v=\"1\"><b><p><i>1</i><t>abcdef</t></p><t/></b></e>",
        "<e v=\"1\"><b><p><i>1</i><a n=\"4\"><i>8</i><r h=\"4\"/></a></p></b></e>",
        "<e v=\"1\"><b><a n=\"4\"><i>8</i><i>9</i><i at=\"0\">7</i></a></b></e>",
        "<e v=\"1\"><b><t id=\"1\">abc</t><t id=\"1\">def</t></b></e>",
        "<e v=\"1\"><b><p><t>abc</t><i>2147483648</i></p></b></e>"};
    private static final int[] ANSWERS = {GraphPages.FORM, GraphPages.FORM, GraphPages.VERSION, GraphPages.MUST,
        GraphPages.CONTENT, GraphPages.CONTENT, GraphPages.CONTENT, GraphPages.CONTENT, GraphPages.CONTENT};

    private static void faults() {
        for (int i = 0; i < FAULTS.length; i++) {
            String page = FAULTS[i];
            unchanged("decode() of " + page, () -> Pages.withPage(page), ANSWERS[i], Pages::decode);
            Supplier<Pages> beside = () -> Pages.after(pages -> {
                pages.feedAll(page);
                pages.makePair();
                pages.makeText("keep");
                pages.link(0, 0, 1);
                pages.link(0, 1, 0);
                pages.understand(4, true);
            });
            unchanged("decode() beside objects of " + page, beside, ANSWERS[i], Pages::decode);
            unchanged("decode() twice of " + page, beside, ANSWERS[i], p -> Math.min(p.decode(), p.decode()));
        }
    }

    private static void faultsWithSixteenObjects() {
        unchanged("decode() with sixteen objects", UnchangedTest::sixteen, GraphPages.CONTENT, Pages::decode);
    }

    private static void faultsAfterAReading() {
        String page = Reading.inBody("<p id=\"1\"><r h=\"1\"/><t>ab</t></p>");
        Supplier<Pages> broken = () -> Pages.after(pages -> {
            pages.feedAll(page);
            pages.decode();
            pages.alter(page.indexOf("id"), 'x');
        });
        unchanged("decode() of a page that was altered", broken, GraphPages.CONTENT, Pages::decode);
    }

    private static void looks() {
        for (int x = 0; x < 4; x++) {
            int object = x;
            Supplier<Pages> maker = UnchangedTest::some;
            unchanged("kind(" + x + ")", maker, new int[] {0, 1, 2, 2}[x], p -> p.kind(object));
            unchanged("size(" + x + ")", maker, new int[] {2, 3, 6, 3}[x], p -> p.size(object));
            unchanged("holds(" + x + ", 0)", maker, new int[] {2, 1, -1, -1}[x], p -> p.holds(object, 0));
            unchanged("value(" + x + ", 0)", maker, new int[] {1, -4, 's', 't'}[x], p -> p.value(object, 0));
            unchanged("shared(" + x + ")", maker, new int[] {1, 0, 0, 0}[x], p -> p.shared(object));
            unchanged("alike(" + x + ", " + x + ")", maker, 1, p -> p.alike(object, object) ? 1 : 0);
            unchanged("charAt(" + x + ")", maker, "<e v".charAt(x), p -> p.charAt(object));
            unchanged("objects()", maker, 4, Pages::objects);
            unchanged("length()", maker, 16, Pages::length);
        }
    }
}
