import java.util.Arrays;

/** Writes graphs of objects as pages of nested elements, and reads such pages as graphs. */
public final class GraphPages {
    public static final int FORM = -1;
    public static final int VERSION = -2;
    public static final int MUST = -3;
    public static final int CONTENT = -4;

    private static final int NONE = -1;

    private static final int PAIR = 0;
    private static final int ARRAY = 1;
    private static final int TEXT = 2;

    private static final int NOTHING = 0;
    private static final int INT = 1;
    private static final int REFERENCE = 2;

    private static final int MOST_OBJECTS = 16;
    private static final int PAIR_SLOTS = 2;
    private static final int MOST_SLOTS = 4;
    private static final int MOST_CHARACTERS = 6;
    private static final int MOST_DIGITS = 10;
    private static final int KEYS = 32;
    private static final int PAGE_ROOM = 1600;

    private final Graph graph;
    private final Page page;
    private final boolean[] understood;
    private final Reach reach;
    private final Matching matching;
    private final Writer writer;
    private final FormReader formReader;
    private final GraphReader graphReader;

    public GraphPages() {
        graph = new Graph();
        page = new Page();
        understood = new boolean[KEYS];
        reach = new Reach(graph);
        matching = new Matching(graph);
        writer = new Writer(graph, reach, page);
        Elements elements = new Elements();
        formReader = new FormReader(page, elements);
        graphReader = new GraphReader(page, elements, graph);
    }

    public int make(int kind, int size) {
        if (graph.count >= MOST_OBJECTS) {
            return NONE;
        }
        if (kind == PAIR) {
            return graph.add(PAIR, PAIR_SLOTS);
        }
        if (kind == ARRAY && size >= 0 && size <= MOST_SLOTS) {
            return graph.add(ARRAY, size);
        }
        return kind == TEXT ? graph.add(TEXT, 0) : NONE;
    }

    public boolean type(int x, char c) {
        return graph.isText(x) && isPrintable(c) && graph.addCharacter(x, c);
    }

    public boolean put(int x, int k, int v) {
        if (!graph.hasSlot(x, k)) {
            return false;
        }
        graph.setSlot(x, k, INT, v);
        return true;
    }

    public boolean link(int x, int k, int y) {
        if (!graph.hasSlot(x, k)) {
            return false;
        }
        if (y == NONE) {
            graph.setSlot(x, k, NOTHING, 0);
            return true;
        }
        if (!graph.has(y)) {
            return false;
        }
        graph.setSlot(x, k, REFERENCE, y);
        return true;
    }

    public int objects() {
        return graph.count;
    }

    public int kind(int x) {
        return graph.has(x) ? graph.kinds[x] : NONE;
    }

    public int size(int x) {
        return graph.has(x) ? graph.sizes[x] : NONE;
    }

    public int holds(int x, int k) {
        return graph.hasSlot(x, k) ? graph.contentOf(x, k) : NONE;
    }

    public int value(int x, int k) {
        if (graph.hasSlot(x, k)) {
            return graph.valueOf(x, k);
        }
        if (graph.isText(x) && k >= 0 && k < graph.sizes[x]) {
            return graph.characterOf(x, k);
        }
        return 0;
    }

    public boolean alike(int x, int y) {
        return graph.has(x) && graph.has(y) && matching.exists(x, y);
    }

    public int shared(int x) {
        if (!graph.has(x)) {
            return NONE;
        }
        reach.startFrom(x);
        return reach.countShared();
    }

    public int encode(int x) {
        if (!graph.has(x)) {
            return NONE;
        }
        writer.writeFrom(x);
        return page.end;
    }

    public int decode() {
        if (!formReader.isWellFormed()) {
            return FORM;
        }
        if (!graphReader.knowsVersion()) {
            return VERSION;
        }
        if (!graphReader.understandsHeaders(understood)) {
            return MUST;
        }
        int root = graphReader.readGraph();
        return root == NONE ? CONTENT : root;
    }

    public void clear() {
        graph.count = 0;
    }

    public boolean understand(int k, boolean yes) {
        if (k < 0 || k >= KEYS || understood[k] == yes) {
            return false;
        }
        understood[k] = yes;
        return true;
    }

    public int length() {
        return page.end;
    }

    public int charAt(int p) {
        return page.codeAt(p);
    }

    public boolean feed(char c) {
        return isPrintable(c) && page.append(c);
    }

    public boolean alter(int p, char c) {
        if (p < 0 || p >= page.end || !isPrintable(c)) {
            return false;
        }
        page.characters[p] = c;
        return true;
    }

    public boolean cut(int n) {
        if (n < 0 || n > page.end) {
            return false;
        }
        page.end = n;
        return true;
    }

    private static boolean isPrintable(int code) {
        return code >= 32 && code <= 126;
    }

    private static boolean isDigit(int code) {
        return code >= '0' && code <= '9';
    }

    private static boolean isLetter(int code) {
        return code >= 'a' && code <= 'z';
    }

    /**
     * The objects. The rows from count on are free: a reader lays objects there while it does not
     * know yet whether the page is sound, so that a fault leaves no trace.
     */
    private static final class Graph {
        int count;
        final int[] kinds = new int[MOST_OBJECTS];
        final int[] sizes = new int[MOST_OBJECTS];
        final int[] contents = new int[MOST_OBJECTS * MOST_SLOTS];
        final int[] values = new int[MOST_OBJECTS * MOST_SLOTS];
        final char[] characters = new char[MOST_OBJECTS * MOST_CHARACTERS];

        boolean has(int x) {
            return x >= 0 && x < count;
        }

        boolean isText(int x) {
            return has(x) && kinds[x] == TEXT;
        }

        boolean hasSlot(int x, int k) {
            return has(x) && kinds[x] != TEXT && k >= 0 && k < sizes[x];
        }

        int add(int objectKind, int objectSize) {
            lay(count, objectKind, objectSize);
            count++;
            return count - 1;
        }

        void lay(int x, int objectKind, int objectSize) {
            kinds[x] = objectKind;
            sizes[x] = objectSize;
            for (int k = 0; k < MOST_SLOTS; k++) {
                setSlot(x, k, NOTHING, 0);
            }
        }

        void setSlot(int x, int k, int content, int slotValue) {
            contents[x * MOST_SLOTS + k] = content;
            values[x * MOST_SLOTS + k] = slotValue;
        }

        int contentOf(int x, int k) {
            return contents[x * MOST_SLOTS + k];
        }

        int valueOf(int x, int k) {
            return values[x * MOST_SLOTS + k];
        }

        boolean addCharacter(int x, char c) {
            if (sizes[x] >= MOST_CHARACTERS) {
                return false;
            }
            characters[x * MOST_CHARACTERS + sizes[x]] = c;
            sizes[x]++;
            return true;
        }

        char characterOf(int x, int k) {
            return characters[x * MOST_CHARACTERS + k];
        }
    }

    private static final class Page {
        int end;
        final char[] characters = new char[PAGE_ROOM];

        int codeAt(int p) {
            return p >= 0 && p < end ? characters[p] : NONE;
        }

        boolean append(char c) {
            if (end >= PAGE_ROOM) {
                return false;
            }
            characters[end] = c;
            end++;
            return true;
        }

        boolean showsAt(int p, String row) {
            for (int i = 0; i < row.length(); i++) {
                if (codeAt(p + i) != row.charAt(i)) {
                    return false;
                }
            }
            return true;
        }
    }

    /** What is reached from an object, and how often each reached object is referred to. */
    private static final class Reach {
        private final Graph graph;
        private final int[] references = new int[MOST_OBJECTS];
        private final int[] order = new int[MOST_OBJECTS];
        private int count;

        Reach(Graph graph) {
            this.graph = graph;
        }

        void startFrom(int x) {
            Arrays.fill(references, 0);
            count = 0;
            // The page itself refers to x once, and so two references make any object shared, x too.
            refer(x);
            for (int i = 0; i < MOST_OBJECTS && i < count; i++) {
                followSlots(order[i]);
            }
        }

        private void followSlots(int x) {
            for (int k = 0; k < MOST_SLOTS; k++) {
                if (graph.hasSlot(x, k) && graph.contentOf(x, k) == REFERENCE) {
                    refer(graph.valueOf(x, k));
                }
            }
        }

        private void refer(int x) {
            references[x]++;
            if (references[x] == 1) {
                order[count] = x;
                count++;
            }
        }

        boolean isShared(int x) {
            return references[x] >= 2;
        }

        int countShared() {
            int sharedObjects = 0;
            for (int x = 0; x < MOST_OBJECTS; x++) {
                if (isShared(x)) {
                    sharedObjects++;
                }
            }
            return sharedObjects;
        }
    }

    /** The search for a one to one matching of two graphs; its start leaves no choice on the way. */
    private static final class Matching {
        private final Graph graph;
        private final int[] partners = new int[MOST_OBJECTS];
        private final int[] partnersBack = new int[MOST_OBJECTS];
        private final int[] order = new int[MOST_OBJECTS];
        private int count;

        Matching(Graph graph) {
            this.graph = graph;
        }

        boolean exists(int x, int y) {
            Arrays.fill(partners, NONE);
            Arrays.fill(partnersBack, NONE);
            count = 0;
            boolean matched = match(x, y);
            for (int i = 0; i < MOST_OBJECTS && i < count && matched; i++) {
                matched = haveSameInside(order[i], partners[order[i]]);
            }
            return matched;
        }

        private boolean match(int x, int y) {
            if (partners[x] == NONE && partnersBack[y] == NONE) {
                partners[x] = y;
                partnersBack[y] = x;
                order[count] = x;
                count++;
                return true;
            }
            return partners[x] == y;
        }

        private boolean haveSameInside(int x, int y) {
            if (graph.kinds[x] != graph.kinds[y] || graph.sizes[x] != graph.sizes[y]) {
                return false;
            }
            return graph.isText(x) ? haveSameCharacters(x, y) : haveSameSlots(x, y);
        }

        private boolean haveSameCharacters(int x, int y) {
            for (int k = 0; k < MOST_CHARACTERS && k < graph.sizes[x]; k++) {
                if (graph.characterOf(x, k) != graph.characterOf(y, k)) {
                    return false;
                }
            }
            return true;
        }

        private boolean haveSameSlots(int x, int y) {
            for (int k = 0; k < MOST_SLOTS && k < graph.sizes[x]; k++) {
                if (!haveSameSlot(x, y, k)) {
                    return false;
                }
            }
            return true;
        }

        private boolean haveSameSlot(int x, int y, int k) {
            if (graph.contentOf(x, k) != graph.contentOf(y, k)) {
                return false;
            }
            if (graph.contentOf(x, k) == REFERENCE) {
                return match(graph.valueOf(x, k), graph.valueOf(y, k));
            }
            return graph.valueOf(x, k) == graph.valueOf(y, k);
        }
    }

    private static final class Writer {
        private static final int NO_ID = 0;

        private final Graph graph;
        private final Reach reach;
        private final Page page;
        private final int[] ids = new int[MOST_OBJECTS];
        private final int[] order = new int[MOST_OBJECTS];
        private int count;

        Writer(Graph graph, Reach reach, Page page) {
            this.graph = graph;
            this.reach = reach;
            this.page = page;
        }

        void writeFrom(int x) {
            reach.startFrom(x);
            Arrays.fill(ids, NO_ID);
            count = 0;
            page.end = 0;
            writeRow("<e v=\"1\"><b>");
            writeReference(x, 0);
            // The elements of shared objects may give ids to more of them: count grows on the way.
            for (int i = 0; i < MOST_OBJECTS && i < count; i++) {
                writeElement(order[i], 0);
            }
            writeRow("</b></e>");
        }

        private void writeReference(int x, int depth) {
            if (reach.isShared(x)) {
                giveId(x);
                writeRow("<r");
                writeAttribute("h", ids[x]);
                writeRow("/>");
            } else if (depth < MOST_OBJECTS) {
                writeElement(x, depth + 1);
            }
        }

        private void giveId(int x) {
            if (ids[x] == NO_ID) {
                order[count] = x;
                count++;
                ids[x] = count;
            }
        }

        private void writeElement(int x, int depth) {
            int kindOfX = graph.kinds[x];
            int first = firstWrittenSlot(x);
            writeRow(kindOfX == PAIR ? "<p" : kindOfX == ARRAY ? "<a" : "<t");
            if (ids[x] != NO_ID) {
                writeAttribute("id", ids[x]);
            }
            if (kindOfX == ARRAY) {
                writeAttribute("n", graph.sizes[x]);
            }
            if (first > 0) {
                writeAttribute("o", first);
            }
            page.append('>');
            if (kindOfX == TEXT) {
                writeCharacters(x);
            } else {
                writeSlots(x, first, depth);
            }
            writeRow(kindOfX == PAIR ? "</p>" : kindOfX == ARRAY ? "</a>" : "</t>");
        }

        /** The first slot that holds something in an ARRAY that has one; else 0. */
        private int firstWrittenSlot(int x) {
            for (int k = 0; graph.kinds[x] == ARRAY && k < graph.sizes[x]; k++) {
                if (graph.contentOf(x, k) != NOTHING) {
                    return k;
                }
            }
            return 0;
        }

        private int behindLastWrittenSlot(int x) {
            int behind = graph.sizes[x];
            while (graph.kinds[x] == ARRAY && behind > 0 && graph.contentOf(x, behind - 1) == NOTHING) {
                behind--;
            }
            return behind;
        }

        private void writeSlots(int x, int first, int depth) {
            int behind = behindLastWrittenSlot(x);
            for (int k = first; k < behind; k++) {
                if (graph.contentOf(x, k) == NOTHING) {
                    writeRow("<n/>");
                } else if (graph.contentOf(x, k) == INT) {
                    writeRow("<i>");
                    writeNumber(graph.valueOf(x, k));
                    writeRow("</i>");
                } else {
                    writeReference(graph.valueOf(x, k), depth);
                }
            }
        }

        private void writeCharacters(int x) {
            for (int k = 0; k < graph.sizes[x]; k++) {
                char c = graph.characterOf(x, k);
                if (c == '<') {
                    writeRow("&lt;");
                } else if (c == '>') {
                    writeRow("&gt;");
                } else if (c == '&') {
                    writeRow("&amp;");
                } else {
                    page.append(c);
                }
            }
        }

        private void writeAttribute(String name, int number) {
            page.append(' ');
            writeRow(name);
            writeRow("=\"");
            writeNumber(number);
            page.append('"');
        }

        private void writeNumber(int number) {
            // As a long, for the least int has no negative among the ints.
            long rest = number;
            if (rest < 0) {
                page.append('-');
                rest = -rest;
            }
            long unit = 1;
            for (int digits = 1; digits < MOST_DIGITS && unit <= rest / 10; digits++) {
                unit *= 10;
            }
            for (; unit > 0; unit /= 10) {
                page.append((char) ('0' + (int) (rest / unit % 10)));
            }
        }

        private void writeRow(String row) {
            for (int i = 0; i < row.length(); i++) {
                page.append(row.charAt(i));
            }
        }
    }

    /** The elements of a well formed page in the order of their starts; the outermost is 0. */
    private static final class Elements {
        // No start is shorter than <a> and no attribute shorter than a="" with its space.
        static final int ROOM = PAGE_ROOM / 3;
        static final int ATTRIBUTE_ROOM = PAGE_ROOM / 5;

        int count;
        final int[] names = new int[ROOM];
        final int[] parents = new int[ROOM];
        final int[] children = new int[ROOM];
        final int[] attributeStarts = new int[ROOM];
        final int[] attributeCounts = new int[ROOM];
        final int[] textStarts = new int[ROOM];
        final int[] textCounts = new int[ROOM];
        int attributeCount;
        final int[] attributeNames = new int[ATTRIBUTE_ROOM];
        final int[] valueStarts = new int[ATTRIBUTE_ROOM];
        final int[] valueCounts = new int[ATTRIBUTE_ROOM];
        int textCount;
        final char[] text = new char[PAGE_ROOM];

        void removeAll() {
            count = 0;
            attributeCount = 0;
            textCount = 0;
        }

        boolean addElement(int name, int parent) {
            if (count >= ROOM) {
                return false;
            }
            names[count] = name;
            parents[count] = parent;
            children[count] = 0;
            attributeStarts[count] = attributeCount;
            attributeCounts[count] = 0;
            textStarts[count] = textCount;
            textCounts[count] = 0;
            if (parent != NONE) {
                children[parent]++;
            }
            count++;
            return true;
        }

        /** Only the element that was added last takes attributes, so that its attributes stand together. */
        boolean addAttribute(int name, int valueStart, int valueCount) {
            if (count == 0 || attributeCount >= ATTRIBUTE_ROOM) {
                return false;
            }
            attributeNames[attributeCount] = name;
            valueStarts[attributeCount] = valueStart;
            valueCounts[attributeCount] = valueCount;
            attributeCounts[count - 1]++;
            attributeCount++;
            return true;
        }

        /** The text of an element without children stands together; of any other only its count is true. */
        boolean addText(int element, int code) {
            if (element == NONE || textCount >= PAGE_ROOM) {
                return false;
            }
            text[textCount] = (char) code;
            textCounts[element]++;
            textCount++;
            return true;
        }

        int findAttribute(int element, int name) {
            int behind = attributeStarts[element] + attributeCounts[element];
            for (int a = attributeStarts[element]; a < behind; a++) {
                if (attributeNames[a] == name) {
                    return a;
                }
            }
            return NONE;
        }

        boolean isEmpty(int element) {
            return textCounts[element] == 0 && children[element] == 0;
        }
    }

    /** Tells whether the page is well formed, and notes its elements. */
    private static final class FormReader {
        private static final int LONGEST_NAME = 6;
        private static final int MOST_ATTRIBUTES = 6;
        private static final int DEEPEST = 20;
        private static final int LONGEST_CODE = 3;
        // Letters count from 1, so that no two names have the same number and no name has 0.
        private static final int NAME_BASE = 27;
        private static final int NO_NAME = 0;

        private final Page page;
        private final Elements elements;
        private int place;
        private int open;
        private int depth;

        FormReader(Page page, Elements elements) {
            this.page = page;
            this.elements = elements;
        }

        boolean isWellFormed() {
            elements.removeAll();
            place = 0;
            open = NONE;
            depth = 0;
            for (int pieces = 0; pieces < PAGE_ROOM && place < page.end; pieces++) {
                if (!readPiece()) {
                    return false;
                }
            }
            return elements.count > 0 && open == NONE && place >= page.end;
        }

        private boolean readPiece() {
            int code = page.codeAt(place);
            if (open == NONE) {
                return elements.count == 0 && code == '<' && readStart();
            }
            if (code == '<') {
                return page.codeAt(place + 1) == '/' ? readEnd() : readStart();
            }
            if (code == '&') {
                return page.codeAt(place + 1) == '#' ? readCode() : readEntity();
            }
            place++;
            return elements.addText(open, code);
        }

        private boolean readStart() {
            place++;
            int name = readName();
            if (name == NO_NAME || depth >= DEEPEST || !elements.addElement(name, open)) {
                return false;
            }
            int element = elements.count - 1;
            boolean spaced = skipSpaces();
            for (int n = 0; n < MOST_ATTRIBUTES && spaced && isLetter(page.codeAt(place)); n++) {
                if (!readAttribute(element)) {
                    return false;
                }
                spaced = skipSpaces();
            }
            if (page.codeAt(place) == '/') {
                place++;
                return skip('>');
            }
            open = element;
            depth++;
            return skip('>');
        }

        private boolean readAttribute(int element) {
            int name = readName();
            if (elements.findAttribute(element, name) != NONE || !skip('=') || !skip('"')) {
                return false;
            }
            int start = place;
            while (place < page.end && mayStandInValue(page.codeAt(place))) {
                place++;
            }
            return skip('"') && elements.addAttribute(name, start, place - 1 - start);
        }

        private static boolean mayStandInValue(int code) {
            return code != '"' && code != '<' && code != '&';
        }

        private boolean readEnd() {
            place += 2;
            if (readName() != elements.names[open] || !skip('>')) {
                return false;
            }
            open = elements.parents[open];
            depth--;
            return true;
        }

        private boolean readEntity() {
            return readEntityOf("&lt;", '<') || readEntityOf("&gt;", '>')
                    || readEntityOf("&amp;", '&') || readEntityOf("&quot;", '"');
        }

        private boolean readEntityOf(String entity, char c) {
            if (!page.showsAt(place, entity)) {
                return false;
            }
            place += entity.length();
            return elements.addText(open, c);
        }

        private boolean readCode() {
            place += 2;
            int code = 0;
            for (int n = 0; n < LONGEST_CODE && isDigit(page.codeAt(place)); n++) {
                code = code * 10 + page.codeAt(place) - '0';
                place++;
            }
            return isPrintable(code) && skip(';') && elements.addText(open, code);
        }

        /** Stops behind the sixth letter: no seventh can be what has to follow a name. */
        private int readName() {
            int name = NO_NAME;
            for (int n = 0; n < LONGEST_NAME && isLetter(page.codeAt(place)); n++) {
                name = name * NAME_BASE + page.codeAt(place) - 'a' + 1;
                place++;
            }
            return name;
        }

        private boolean skipSpaces() {
            int start = place;
            while (place < page.end && page.codeAt(place) == ' ') {
                place++;
            }
            return place > start;
        }

        private boolean skip(char c) {
            if (page.codeAt(place) != c) {
                return false;
            }
            place++;
            return true;
        }
    }

    /** Looks for the faults of a well formed page and lays its objects behind those of the graph. */
    private static final class GraphReader {
        private static final int A = 'a' - 'a' + 1;
        private static final int B = 'b' - 'a' + 1;
        private static final int E = 'e' - 'a' + 1;
        private static final int H = 'h' - 'a' + 1;
        private static final int I = 'i' - 'a' + 1;
        private static final int K = 'k' - 'a' + 1;
        private static final int M = 'm' - 'a' + 1;
        private static final int N = 'n' - 'a' + 1;
        private static final int O = 'o' - 'a' + 1;
        private static final int P = 'p' - 'a' + 1;
        private static final int R = 'r' - 'a' + 1;
        private static final int T = 't' - 'a' + 1;
        private static final int V = 'v' - 'a' + 1;
        private static final int AT = A * FormReader.NAME_BASE + T;
        private static final int ID = I * FormReader.NAME_BASE + 'd' - 'a' + 1;

        private static final int OUTERMOST = 0;
        private static final int COUNTS = 100;
        private static final long NO_NUMBER = 1L << 40;

        private final Page page;
        private final Elements elements;
        private final Graph graph;
        private final int[] objectsOfElements = new int[Elements.ROOM];
        private final int[] objectsOfIds = new int[COUNTS];
        private final int[] nextSlots = new int[MOST_OBJECTS];
        private final int[] takenSlots = new int[MOST_OBJECTS];
        private int count;

        GraphReader(Page page, Elements elements, Graph graph) {
            this.page = page;
            this.elements = elements;
            this.graph = graph;
        }

        boolean knowsVersion() {
            return elements.names[OUTERMOST] == E && isOne(OUTERMOST, V);
        }

        boolean understandsHeaders(boolean[] understood) {
            for (int e = OUTERMOST + 1; e < elements.count; e++) {
                boolean header = elements.parents[e] == OUTERMOST && elements.names[e] == H;
                if (header && isOne(e, M) && !isUnderstood(countIn(e, K), understood)) {
                    return false;
                }
            }
            return true;
        }

        private static boolean isUnderstood(int key, boolean[] understood) {
            return key >= 0 && key < understood.length && understood[key];
        }

        /** Answers the root, or NONE when the content has a fault. */
        int readGraph() {
            int body = findBody();
            if (body == NONE || !isSoundBody(body)) {
                return NONE;
            }
            Arrays.fill(objectsOfIds, NONE);
            count = graph.count;
            // The body is the last child of the outermost: all later elements are inside it.
            for (int e = body + 1; e < elements.count; e++) {
                if (!isSound(e) || !numberObject(e)) {
                    return NONE;
                }
            }
            for (int e = body + 1; e < elements.count; e++) {
                boolean placed = elements.parents[e] == body ? mayStandInBody(e, body) : fillSlot(e);
                if (!placed) {
                    return NONE;
                }
            }
            graph.count = count;
            return referredBy(body + 1);
        }

        private int findBody() {
            int body = NONE;
            for (int e = OUTERMOST + 1; e < elements.count; e++) {
                if (elements.parents[e] != OUTERMOST) {
                    continue;
                }
                if (body != NONE) {
                    return NONE;
                }
                if (elements.names[e] == B) {
                    body = e;
                } else if (elements.names[e] != H) {
                    return NONE;
                }
            }
            return body;
        }

        private boolean isSoundBody(int body) {
            return elements.attributeCounts[OUTERMOST] == 1 && elements.textCounts[OUTERMOST] == 0
                    && elements.attributeCounts[body] == 0 && elements.textCounts[body] == 0
                    && elements.children[body] > 0;
        }

        private boolean isSound(int e) {
            if (!hasSoundAttributes(e)) {
                return false;
            }
            switch (elements.names[e]) {
                case P:
                    return elements.textCounts[e] == 0 && elements.children[e] == PAIR_SLOTS;
                case A:
                    return elements.textCounts[e] == 0 && hasSoundSize(e);
                case T:
                    return elements.children[e] == 0 && elements.textCounts[e] <= MOST_CHARACTERS;
                case N:
                    return elements.isEmpty(e);
                case I:
                    return elements.children[e] == 0 && numberIn(e) != NO_NUMBER;
                case R:
                    return elements.isEmpty(e) && elements.findAttribute(e, H) != NONE;
                default:
                    return false;
            }
        }

        private boolean hasSoundAttributes(int e) {
            int behind = elements.attributeStarts[e] + elements.attributeCounts[e];
            for (int a = elements.attributeStarts[e]; a < behind; a++) {
                if (!mayBear(e, elements.attributeNames[a]) || countOf(a) == NONE) {
                    return false;
                }
            }
            return true;
        }

        private boolean mayBear(int e, int attribute) {
            int name = elements.names[e];
            switch (attribute) {
                case ID:
                    return isObject(e);
                case N:
                case O:
                    return name == A;
                case H:
                    return name == R;
                case AT:
                    return elements.names[elements.parents[e]] == A;
                default:
                    return false;
            }
        }

        private boolean hasSoundSize(int e) {
            int slots = countIn(e, N);
            return slots >= 0 && slots <= MOST_SLOTS && countIn(e, O) <= slots;
        }

        private boolean isObject(int e) {
            int name = elements.names[e];
            return name == P || name == A || name == T;
        }

        private boolean numberObject(int e) {
            objectsOfElements[e] = NONE;
            if (!isObject(e)) {
                return true;
            }
            if (count >= MOST_OBJECTS) {
                return false;
            }
            objectsOfElements[e] = count;
            layObject(e, count);
            count++;
            return keepId(e);
        }

        private void layObject(int e, int x) {
            nextSlots[x] = Math.max(countIn(e, O), 0);
            takenSlots[x] = 0;
            if (elements.names[e] == P) {
                graph.lay(x, PAIR, PAIR_SLOTS);
            } else if (elements.names[e] == A) {
                graph.lay(x, ARRAY, countIn(e, N));
            } else {
                graph.lay(x, TEXT, 0);
                for (int k = 0; k < elements.textCounts[e]; k++) {
                    graph.addCharacter(x, elements.text[elements.textStarts[e] + k]);
                }
            }
        }

        private boolean keepId(int e) {
            int id = countIn(e, ID);
            if (id == NONE) {
                return true;
            }
            if (objectsOfIds[id] != NONE) {
                return false;
            }
            objectsOfIds[id] = objectsOfElements[e];
            return true;
        }

        private boolean mayStandInBody(int e, int body) {
            if (e == body + 1) {
                return referredBy(e) != NONE;
            }
            return isObject(e) && elements.findAttribute(e, ID) != NONE;
        }

        private boolean fillSlot(int e) {
            int x = objectsOfElements[elements.parents[e]];
            if (x == NONE) {
                return false;
            }
            int k = elements.findAttribute(e, AT) == NONE ? nextSlots[x] : countIn(e, AT);
            if (k >= graph.sizes[x] || (takenSlots[x] >> k & 1) == 1) {
                return false;
            }
            nextSlots[x] = k + 1;
            takenSlots[x] |= 1 << k;
            return holdElement(x, k, e);
        }

        private boolean holdElement(int x, int k, int e) {
            if (elements.names[e] == N) {
                return true;
            }
            if (elements.names[e] == I) {
                graph.setSlot(x, k, INT, (int) numberIn(e));
                return true;
            }
            int referred = referredBy(e);
            if (referred == NONE) {
                return false;
            }
            graph.setSlot(x, k, REFERENCE, referred);
            return true;
        }

        /** The object of a p, a or t, or the one that an r points at; NONE when there is none. */
        private int referredBy(int e) {
            if (elements.names[e] != R) {
                return objectsOfElements[e];
            }
            int id = countIn(e, H);
            return id == NONE ? NONE : objectsOfIds[id];
        }

        private boolean isOne(int e, int attribute) {
            int a = elements.findAttribute(e, attribute);
            return a != NONE && elements.valueCounts[a] == 1
                    && page.codeAt(elements.valueStarts[a]) == '1';
        }

        private int countIn(int e, int attribute) {
            int a = elements.findAttribute(e, attribute);
            return a == NONE ? NONE : countOf(a);
        }

        /** The COUNT that is the value of attribute a, NONE when the value is no COUNT. */
        private int countOf(int a) {
            int digits = elements.valueCounts[a];
            if (digits != 1 && digits != 2) {
                return NONE;
            }
            int number = 0;
            for (int i = 0; i < digits; i++) {
                int code = page.codeAt(elements.valueStarts[a] + i);
                if (!isDigit(code)) {
                    return NONE;
                }
                number = number * 10 + code - '0';
            }
            return number;
        }

        private long numberIn(int e) {
            int first = elements.textStarts[e];
            int behind = first + elements.textCounts[e];
            boolean negative = first < behind && elements.text[first] == '-';
            if (negative) {
                first++;
            }
            if (first >= behind || behind - first > MOST_DIGITS) {
                return NO_NUMBER;
            }
            long number = 0;
            for (int i = first; i < behind; i++) {
                if (!isDigit(elements.text[i])) {
                    return NO_NUMBER;
                }
                number = number * 10 + elements.text[i] - '0';
            }
            number = negative ? -number : number;
            return number == (int) number ? number : NO_NUMBER;
        }
    }
}
