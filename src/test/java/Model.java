import java.util.ArrayList;
import java.util.HashMap;
import java.util.HashSet;
import java.util.LinkedHashMap;
import java.util.LinkedHashSet;
import java.util.List;
import java.util.Map;
import java.util.Set;
import java.util.regex.Matcher;
import java.util.regex.Pattern;

/** The document told once more, slowly and over the Java library, to compare answers with. */
final class Model {
    private static final Pattern START =
        Pattern.compile("<([a-z]{1,6})((?: +[a-z]{1,6}=\"[^\"<&]*\"){0,6}) *(/?)>");
    private static final Pattern ATTRIBUTE = Pattern.compile(" +([a-z]+)=\"([^\"]*)\"");
    private static final Pattern ENTITY = Pattern.compile("&(?:(lt|gt|amp|quot)|#([0-9]{1,3}));");

    private static final class Node {
        String name;
        final Map<String, String> attributes = new LinkedHashMap<>();
        final StringBuilder text = new StringBuilder();
        final List<Node> children = new ArrayList<>();
        int number = -1;
    }

    /** A slot is null for NOTHING, an Integer for an int, a Thing for a reference. */
    private static final class Thing {
        final int kind;
        final Object[] slots;
        String text = "";

        Thing(int kind, int slots) {
            this.kind = kind;
            this.slots = new Object[slots];
        }
    }

    private final List<Thing> things = new ArrayList<>();
    private final Set<Integer> keys = new HashSet<>();
    private String page = "";

    // The graph

    private Thing thing(int x) {
        return x >= 0 && x < things.size() ? things.get(x) : null;
    }

    private boolean hasSlot(int x, int k) {
        return thing(x) != null && k >= 0 && k < thing(x).slots.length;
    }

    private static boolean printable(char c) {
        return c >= ' ' && c <= '~';
    }

    int make(int kind, int size) {
        if (things.size() == 16 || kind < 0 || kind > 2 || kind == 1 && (size < 0 || size > 4)) {
            return -1;
        }
        things.add(new Thing(kind, new int[] {2, size, 0}[kind]));
        return things.size() - 1;
    }

    boolean type(int x, char c) {
        Thing t = thing(x);
        if (t == null || t.kind != 2 || !printable(c) || t.text.length() == 6) {
            return false;
        }
        t.text += c;
        return true;
    }

    boolean put(int x, int k, int v) {
        if (hasSlot(x, k)) {
            thing(x).slots[k] = v;
        }
        return hasSlot(x, k);
    }

    boolean link(int x, int k, int y) {
        if (!hasSlot(x, k) || y != -1 && thing(y) == null) {
            return false;
        }
        thing(x).slots[k] = thing(y);
        return true;
    }

    int objects() {
        return things.size();
    }

    int kind(int x) {
        return thing(x) == null ? -1 : thing(x).kind;
    }

    int size(int x) {
        return thing(x) == null ? -1 : thing(x).slots.length + thing(x).text.length();
    }

    int holds(int x, int k) {
        if (!hasSlot(x, k)) {
            return -1;
        }
        Object held = thing(x).slots[k];
        return held == null ? 0 : held instanceof Integer ? 1 : 2;
    }

    int value(int x, int k) {
        if (thing(x) != null && k >= 0 && k < thing(x).text.length()) {
            return thing(x).text.charAt(k);
        }
        if (!hasSlot(x, k) || thing(x).slots[k] == null) {
            return 0;
        }
        Object held = thing(x).slots[k];
        return held instanceof Integer ? (Integer) held : things.indexOf(held);
    }

    /** A page tells a graph but for the numbers of its objects: alike objects have the same page. */
    boolean alike(int x, int y) {
        return thing(x) != null && thing(y) != null && written(thing(x)).equals(written(thing(y)));
    }

    int shared(int x) {
        return thing(x) == null ? -1 : sharedFrom(thing(x)).size();
    }

    int encode(int x) {
        if (thing(x) == null) {
            return -1;
        }
        page = written(thing(x));
        return page.length();
    }

    void clear() {
        things.clear();
    }

    // Writing

    private static void reach(Thing t, Set<Thing> reached) {
        if (reached.add(t)) {
            for (Object held : t.slots) {
                if (held instanceof Thing) {
                    reach((Thing) held, reached);
                }
            }
        }
    }

    private static Set<Thing> sharedFrom(Thing x) {
        Set<Thing> reached = new LinkedHashSet<>();
        reach(x, reached);
        Set<Thing> shared = new HashSet<>();
        for (Thing target : reached) {
            int slots = 0;
            for (Thing t : reached) {
                for (Object held : t.slots) {
                    slots += held == target ? 1 : 0;
                }
            }
            if (slots >= 2 || target == x && slots >= 1) {
                shared.add(target);
            }
        }
        return shared;
    }

    private static String written(Thing x) {
        Set<Thing> shared = sharedFrom(x);
        List<Thing> ids = new ArrayList<>();
        StringBuilder body = new StringBuilder(reference(x, shared, ids));
        for (int i = 0; i < ids.size(); i++) {
            body.append(element(ids.get(i), " id=\"" + (i + 1) + "\"", shared, ids));
        }
        return "<e v=\"1\"><b>" + body + "</b></e>";
    }

    private static String reference(Thing t, Set<Thing> shared, List<Thing> ids) {
        if (!shared.contains(t)) {
            return element(t, "", shared, ids);
        }
        if (!ids.contains(t)) {
            ids.add(t);
        }
        return "<r h=\"" + (ids.indexOf(t) + 1) + "\"/>";
    }

    private static String element(Thing t, String id, Set<Thing> shared, List<Thing> ids) {
        if (t.kind == 2) {
            String text = t.text.replace("&", "&amp;").replace("<", "&lt;").replace(">", "&gt;");
            return "<t" + id + ">" + text + "</t>";
        }
        List<Integer> filled = new ArrayList<>();
        for (int k = 0; k < t.slots.length; k++) {
            if (t.slots[k] != null || t.kind == 0) {
                filled.add(k);
            }
        }
        int first = filled.isEmpty() ? 0 : filled.get(0);
        int last = filled.isEmpty() ? -1 : filled.get(filled.size() - 1);
        StringBuilder slots = new StringBuilder();
        for (int k = first; k <= last; k++) {
            Object held = t.slots[k];
            slots.append(held == null ? "<n/>"
                : held instanceof Thing ? reference((Thing) held, shared, ids) : "<i>" + held + "</i>");
        }
        if (t.kind == 0) {
            return "<p" + id + ">" + slots + "</p>";
        }
        String o = first == 0 ? "" : " o=\"" + first + "\"";
        return "<a" + id + " n=\"" + t.slots.length + "\"" + o + ">" + slots + "</a>";
    }

    // Reading

    int decode() {
        int[] place = {0};
        Node e = element(place, 1);
        if (e == null || place[0] != page.length()) {
            return GraphPages.FORM;
        }
        if (!e.name.equals("e") || !"1".equals(e.attributes.get("v"))) {
            return GraphPages.VERSION;
        }
        for (Node h : e.children) {
            if (h.name.equals("h") && "1".equals(h.attributes.get("m"))
                && !keys.contains(count(h.attributes.get("k")))) {
                return GraphPages.MUST;
            }
        }
        int root = content(e);
        return root < 0 ? GraphPages.CONTENT : root;
    }

    private Node element(int[] place, int deep) {
        Matcher start = START.matcher(page).region(place[0], page.length());
        if (deep > 20 || !start.lookingAt()) {
            return null;
        }
        Node node = new Node();
        node.name = start.group(1);
        Matcher attribute = ATTRIBUTE.matcher(start.group(2));
        while (attribute.find()) {
            if (node.attributes.put(attribute.group(1), attribute.group(2)) != null) {
                return null;
            }
        }
        place[0] = start.end();
        boolean whole = start.group(3).equals("/") || fillContent(node, place, deep);
        return whole ? node : null;
    }

    private boolean fillContent(Node node, int[] place, int deep) {
        String end = "</" + node.name + ">";
        while (place[0] < page.length() && !page.startsWith(end, place[0])) {
            char c = page.charAt(place[0]);
            if (c == '<') {
                Node child = element(place, deep + 1);
                if (child == null) {
                    return false;
                }
                node.children.add(child);
            } else if (c == '&') {
                Matcher entity = ENTITY.matcher(page).region(place[0], page.length());
                if (!entity.lookingAt()) {
                    return false;
                }
                int code = entity.group(1) == null ? Integer.parseInt(entity.group(2))
                    : Map.of("lt", 60, "gt", 62, "amp", 38, "quot", 34).get(entity.group(1));
                if (code < 32 || code > 126) {
                    return false;
                }
                node.text.append((char) code);
                place[0] = entity.end();
            } else {
                node.text.append(c);
                place[0]++;
            }
        }
        boolean ended = place[0] < page.length();
        place[0] += end.length();
        return ended;
    }

    private static int count(String value) {
        return value != null && value.matches("[0-9]{1,2}") ? Integer.parseInt(value) : -1;
    }

    private int content(Node e) {
        int last = e.children.size() - 1;
        if (e.attributes.size() != 1 || e.text.length() > 0 || last < 0) {
            return -1;
        }
        for (int i = 0; i <= last; i++) {
            if (!e.children.get(i).name.equals(i == last ? "b" : "h")) {
                return -1;
            }
        }
        Node b = e.children.get(last);
        if (!b.attributes.isEmpty() || b.text.length() > 0 || b.children.isEmpty()) {
            return -1;
        }
        for (Node child : b.children) {
            boolean first = child == b.children.get(0);
            if (!child.name.matches(first ? "[patr]" : "[pat]") || !first && !child.attributes.containsKey("id")) {
                return -1;
            }
        }
        return graph(b);
    }

    private int graph(Node b) {
        List<Node> objects = new ArrayList<>();
        Map<Integer, Node> ids = new HashMap<>();
        List<Integer> wanted = new ArrayList<>();
        for (Node child : b.children) {
            if (!sound(child, false, objects, ids, wanted)) {
                return -1;
            }
        }
        if (things.size() + objects.size() > 16 || !ids.keySet().containsAll(wanted)) {
            return -1;
        }
        List<Thing> fresh = new ArrayList<>();
        for (Node node : objects) {
            node.number = things.size() + fresh.size();
            int kind = "pat".indexOf(node.name);
            fresh.add(new Thing(kind, kind == 0 ? 2 : kind == 1 ? count(node.attributes.get("n")) : 0));
        }
        things.addAll(fresh);
        for (Node node : objects) {
            fill(node, ids);
        }
        Node first = b.children.get(0);
        return first.name.equals("r") ? ids.get(count(first.attributes.get("h"))).number : first.number;
    }

    private static boolean sound(Node node, boolean inArray, List<Node> objects, Map<Integer, Node> ids,
            List<Integer> wanted) {
        Map<String, String> may = Map.of("p", "id", "a", "id|n|o", "t", "id", "n", "", "i", "", "r", "h");
        if (!may.containsKey(node.name)) {
            return false;
        }
        for (Map.Entry<String, String> attribute : node.attributes.entrySet()) {
            String allowed = may.get(node.name) + (inArray ? "|at" : "");
            if (!attribute.getKey().matches(allowed) || count(attribute.getValue()) < 0) {
                return false;
            }
        }
        if (node.name.matches("[pat]")) {
            objects.add(node);
            String id = node.attributes.get("id");
            if (id != null && ids.put(count(id), node) != null) {
                return false;
            }
        }
        if (!soundInside(node)) {
            return false;
        }
        if (node.name.equals("r")) {
            wanted.add(count(node.attributes.get("h")));
        }
        for (Node child : node.children) {
            if (!sound(child, node.name.equals("a"), objects, ids, wanted)) {
                return false;
            }
        }
        return true;
    }

    private static boolean soundInside(Node node) {
        boolean childless = node.children.isEmpty();
        switch (node.name) {
            case "p": return node.text.length() == 0 && node.children.size() == 2;
            case "a": return node.text.length() == 0 && soundSlots(node);
            case "t": return childless && node.text.length() <= 6;
            case "n": return childless && node.text.length() == 0;
            case "i": return childless && node.text.toString().matches("-?[0-9]{1,10}")
                && Math.abs(Long.parseLong(node.text.toString()) * 2 + 1) < 1L << 32;
            default: return childless && node.text.length() == 0 && node.attributes.containsKey("h");
        }
    }

    private static boolean soundSlots(Node array) {
        int n = count(array.attributes.get("n"));
        if (n < 0 || n > 4 || count(array.attributes.get("o")) > n) {
            return false;
        }
        List<Integer> slots = slots(array);
        for (int slot : slots) {
            if (slot >= n) {
                return false;
            }
        }
        return new HashSet<>(slots).size() == slots.size();
    }

    private static List<Integer> slots(Node node) {
        List<Integer> slots = new ArrayList<>();
        int next = Math.max(0, count(node.attributes.get("o")));
        for (Node child : node.children) {
            int at = count(child.attributes.get("at"));
            slots.add(at < 0 ? next : at);
            next = slots.get(slots.size() - 1) + 1;
        }
        return slots;
    }

    private void fill(Node node, Map<Integer, Node> ids) {
        Thing t = things.get(node.number);
        t.text = node.name.equals("t") ? node.text.toString() : "";
        List<Integer> slots = slots(node);
        for (int i = 0; i < slots.size(); i++) {
            Node child = node.children.get(i);
            if (child.name.equals("i")) {
                t.slots[slots.get(i)] = Integer.parseInt(child.text.toString());
            } else if (child.name.equals("r")) {
                t.slots[slots.get(i)] = things.get(ids.get(count(child.attributes.get("h"))).number);
            } else if (!child.name.equals("n")) {
                t.slots[slots.get(i)] = things.get(child.number);
            }
        }
    }

    // The page

    boolean understand(int k, boolean yes) {
        return k >= 0 && k < 32 && (yes ? keys.add(k) : keys.remove(k));
    }

    int length() {
        return page.length();
    }

    int charAt(int p) {
        return p >= 0 && p < page.length() ? page.charAt(p) : -1;
    }

    boolean feed(char c) {
        if (!printable(c) || page.length() == 1600) {
            return false;
        }
        page += c;
        return true;
    }

    boolean alter(int p, char c) {
        if (p < 0 || p >= page.length() || !printable(c)) {
            return false;
        }
        page = page.substring(0, p) + c + page.substring(p + 1);
        return true;
    }

    boolean cut(int n) {
        if (n < 0 || n > page.length()) {
            return false;
        }
        page = page.substring(0, n);
        return true;
    }
}
