import java.util.Arrays;

/**
 * Documents with styles, in packages of packed and checked parts: read with the first fault told,
 * brought to one plain form, compared at the least cost, changed into one another step by step,
 * and written as packages again.
 *
 * <p>Every row that a call needs is made with the object, so that no call makes another object but
 * the exception that it throws.
 */
public final class PaperParcels {
    public static final int NONE = -1;
    public static final int SHEET = 0, PARAGRAPH = 1, RUN = 2, LIST = 3, ITEM = 4;

    private static final int SLOTS = 3;
    private static final int TEXT_MOST = 480;
    private static final int CONTENT_MOST = 300;
    private static final int ELEMENTS_MOST = 30;
    private static final int NESTED_MOST = 8;
    private static final int NODES_MOST = 40;
    private static final int STEPS_MOST = 2 * NODES_MOST;
    private static final int CAPITALS = 26;

    /** The shortest attribute has five characters, so that content can't have more than this. */
    private static final int ATTRIBUTES_MOST = CONTENT_MOST / 5;

    private static final int SHORTEST_REFERENCE = 5;
    private static final int LONGEST_REFERENCE = 14;
    private static final int FARTHEST_REFERENCE = 99;

    /** Places in the content of C are told as this much more. */
    private static final int BODY_PLACES = 1000;

    /** A look is kept as one number, 1000 b + 10 z + k; this one is 0, 10, 0. */
    private static final int USUAL_LOOK = 100;

    /** The element of each kind of node, by the number of the kind. */
    private static final String ELEMENT_LETTERS = "dpxli";

    private final Row text;
    private final Paper[] slots;
    private final Reader reader;
    private final Script script;
    private final Emitter emitter;

    public PaperParcels() {
        text = new Row(TEXT_MOST);
        slots = new Paper[SLOTS];
        slots[0] = new Paper(NODES_MOST, CONTENT_MOST);
        slots[1] = new Paper(NODES_MOST, CONTENT_MOST);
        slots[2] = new Paper(2 * NODES_MOST, 2 * CONTENT_MOST);
        reader = new Reader();
        script = new Script(slots[0], slots[1], slots[2]);
        emitter = new Emitter();
    }

    public boolean write(long characters) {
        int count = 0;
        for (int shift = 0; shift < 64; shift += 8) {
            int sign = (int) (characters >>> shift) & 255;
            if (sign != 0) {
                if (sign < 32 || sign > 126) {
                    return false;
                }
                count++;
            }
        }
        if (text.size + count > TEXT_MOST) {
            return false;
        }
        for (int shift = 0; shift < 64; shift += 8) {
            int sign = (int) (characters >>> shift) & 255;
            if (sign != 0) {
                text.put(sign);
            }
        }
        return true;
    }

    public int wipe() {
        int had = text.size;
        text.clear();
        return had;
    }

    public int length() {
        return text.size;
    }

    public int character(int i) {
        return text.at(i);
    }

    public int read(int slot) throws IllegalArgumentException {
        if (slot != 0 && slot != 1) {
            throw new IllegalArgumentException();
        }
        int fault = reader.findFault(text);
        if (fault == 0) {
            slots[slot].copyFrom(reader.paper);
            script.drop();
        }
        return fault;
    }

    public int place() {
        return reader.faultPlace;
    }

    public int nodes(int slot) throws IllegalArgumentException {
        return inSlot(slot).count;
    }

    public int kind(int slot, int node) throws IllegalArgumentException, IndexOutOfBoundsException {
        return withNode(inSlot(slot), node).kinds[node];
    }

    public int above(int slot, int node) throws IllegalArgumentException, IndexOutOfBoundsException {
        return withNode(inSlot(slot), node).aboves[node];
    }

    public int look(int slot, int node, int what) throws IllegalArgumentException, IndexOutOfBoundsException {
        Paper paper = inSlot(slot);
        if (what < 0 || what > 2) {
            throw new IllegalArgumentException();
        }
        int all = withNode(paper, node).looks[node];
        return all == NONE ? NONE : numberOfLook(all, what);
    }

    public int letters(int slot, int node) throws IllegalArgumentException, IndexOutOfBoundsException {
        return withNode(inSlot(slot), node).sizes[node];
    }

    public int letter(int slot, int node, int i) throws IllegalArgumentException, IndexOutOfBoundsException {
        return withNode(inSlot(slot), node).signAt(node, i);
    }

    public int compare() throws IllegalStateException {
        if (slots[0].count == 0 || slots[1].count == 0) {
            throw new IllegalStateException();
        }
        return script.find();
    }

    public int steps() {
        return script.count;
    }

    public int step(int k, boolean fresh) throws IndexOutOfBoundsException {
        if (k < 0 || k >= script.count) {
            throw new IndexOutOfBoundsException();
        }
        return fresh ? script.freshNodes[k] : script.oldNodes[k];
    }

    public int apply(int n) throws IllegalStateException, IllegalArgumentException {
        if (!script.found) {
            throw new IllegalStateException();
        }
        if (n < 0 || n > script.count) {
            throw new IllegalArgumentException();
        }
        script.carryOut(n);
        return slots[2].count;
    }

    public int emit(int slot, int method)
            throws IllegalArgumentException, IllegalStateException, UnsupportedOperationException {
        Paper paper = inSlot(slot);
        if (method != 0 && method != 1) {
            throw new IllegalArgumentException();
        }
        if (paper.count == 0) {
            throw new IllegalStateException();
        }
        if (!emitter.compose(paper, method)) {
            throw new UnsupportedOperationException();
        }
        text.clear();
        text.putAll(emitter.whole);
        return text.size;
    }

    private Paper inSlot(int slot) {
        if (slot < 0 || slot >= SLOTS) {
            throw new IllegalArgumentException();
        }
        return slots[slot];
    }

    private static Paper withNode(Paper paper, int node) {
        if (node < 0 || node >= paper.count) {
            throw new IndexOutOfBoundsException();
        }
        return paper;
    }

    private static int numberOfLook(int all, int what) {
        if (what == 0) {
            return all / 1000;
        }
        return what == 1 ? all / 10 % 100 : all % 10;
    }

    private static boolean isDigit(int sign) {
        return sign >= '0' && sign <= '9';
    }

    private static boolean isSmall(int sign) {
        return sign >= 'a' && sign <= 'z';
    }

    private static boolean isCapital(int sign) {
        return sign >= 'A' && sign <= 'Z';
    }

    private static int hexDigit(int four) {
        return four < 10 ? '0' + four : 'a' + four - 10;
    }

    /** Characters up to a bound; what doesn't fit is left out and remembered as over. */
    private static final class Row {
        final int[] cells;
        int size;
        boolean over;

        Row(int most) {
            cells = new int[most];
        }

        void clear() {
            size = 0;
            over = false;
        }

        void put(int sign) {
            if (size < cells.length) {
                cells[size] = sign;
                size++;
            } else {
                over = true;
            }
        }

        void putText(String signs) {
            for (int i = 0; i < signs.length(); i++) {
                put(signs.charAt(i));
            }
        }

        void putAll(Row other) {
            for (int i = 0; i < other.size; i++) {
                put(other.cells[i]);
            }
        }

        /** NONE is no character, so that it serves as what stands behind the end. */
        int at(int i) {
            return i >= 0 && i < size ? cells[i] : NONE;
        }

        int checkSum() {
            int sum = 65535;
            for (int i = 0; i < size; i++) {
                sum ^= cells[i] << 8;
                for (int bit = 0; bit < 8; bit++) {
                    boolean fellOut = (sum & 32768) != 0;
                    sum = (sum << 1) & 65535;
                    if (fellOut) {
                        sum ^= 4129;
                    }
                }
            }
            return sum;
        }
    }

    /** One part of the package that is read; its places are places in the text. */
    private static final class Part {
        final int name;
        final Row content;
        boolean packed;
        int dataAt;
        int checkAt;

        Part(int name) {
            this.name = name;
            content = new Row(CONTENT_MOST);
        }

        /** Where the text is no such part from a place on, or NONE. */
        int scan(Row text, int from) {
            if (text.at(from) != name) {
                return from;
            }
            int method = text.at(from + 1);
            if (method != '0' && method != '1') {
                return from + 1;
            }
            int count = 0;
            for (int at = from + 2; at < from + 5; at++) {
                if (!isDigit(text.at(at))) {
                    return at;
                }
                count = 10 * count + text.at(at) - '0';
            }
            packed = method == '1';
            dataAt = from + 5;
            checkAt = dataAt + count;
            for (int at = checkAt; at < checkAt + 4; at++) {
                if (!isHex(text.at(at))) {
                    return Math.min(at, text.size);
                }
            }
            return NONE;
        }

        int end() {
            return checkAt + 4;
        }

        private static boolean isHex(int sign) {
            return isDigit(sign) || sign >= 'a' && sign <= 'f';
        }

        /** Where the data do not unpack to content, or NONE. */
        int unpack(Row text) {
            content.clear();
            for (int at = dataAt; at < checkAt; at++) {
                int begin = at;
                if (packed && text.at(at) == '~') {
                    if (!follow(text, at)) {
                        return begin;
                    }
                    at += 3;
                } else {
                    content.put(text.at(at));
                }
                if (content.over) {
                    return begin;
                }
            }
            return NONE;
        }

        /** Unpacks the reference at a place: false when it is none. */
        private boolean follow(Row text, int at) {
            if (at + 3 >= checkAt) {
                return false;
            }
            for (int i = at + 1; i <= at + 3; i++) {
                if (!isDigit(text.at(i))) {
                    return false;
                }
            }
            int back = 10 * (text.at(at + 1) - '0') + text.at(at + 2) - '0';
            if (back == 0 || back > content.size) {
                return false;
            }
            int times = text.at(at + 3) - '0' + SHORTEST_REFERENCE;
            for (int i = 0; i < times; i++) {
                content.put(content.at(content.size - back));
            }
            return true;
        }

        /** Where the check begins when it is another than that of the content, or NONE. */
        int checkFault(Row text) {
            int sum = content.checkSum();
            for (int i = 0; i < 4; i++) {
                if (text.at(checkAt + i) != hexDigit(sum >> (12 - 4 * i) & 15)) {
                    return checkAt;
                }
            }
            return NONE;
        }
    }

    /** The elements of a content in the order in which they begin; places are places in it. */
    private static final class Elements {
        final Row content;
        final int[] kinds;
        final int[] begins;
        final int[] parents;
        final int[] firstAttributes;
        final int[] attributeEnds;
        int count;

        final int[] attributePlaces;
        final int[] valueSizes;
        int attributes;

        /** The element of which the character at a place is a letter, or NONE. */
        final int[] owners;

        private int at;
        private int open;
        private int depth;

        Elements(Row content) {
            this.content = content;
            kinds = new int[ELEMENTS_MOST];
            begins = new int[ELEMENTS_MOST];
            parents = new int[ELEMENTS_MOST];
            firstAttributes = new int[ELEMENTS_MOST];
            attributeEnds = new int[ELEMENTS_MOST];
            attributePlaces = new int[ATTRIBUTES_MOST];
            valueSizes = new int[ATTRIBUTES_MOST];
            owners = new int[CONTENT_MOST];
        }

        /** Where the content is no element, or NONE. */
        int parse() {
            count = 0;
            attributes = 0;
            at = 0;
            open = NONE;
            depth = 0;
            Arrays.fill(owners, NONE);
            boolean goesOn = true;
            for (int turn = 0; turn < CONTENT_MOST && goesOn && at < content.size; turn++) {
                int sign = content.at(at);
                if (open == NONE) {
                    goesOn = count == 0 && sign == '<' && takeBegin();
                } else if (sign == '<') {
                    goesOn = content.at(at + 1) == '/' ? takeEnd() : takeBegin();
                } else {
                    goesOn = takeLetter(sign);
                }
            }
            return goesOn && count > 0 && open == NONE ? NONE : at;
        }

        /** Like every take, it stops with at standing at what can't stand there, and says false. */
        private boolean takeLetter(int sign) {
            if (sign == '>' || sign == '&' || sign == '~') {
                return false;
            }
            owners[at] = open;
            at++;
            return true;
        }

        private boolean takeBegin() {
            if (count == ELEMENTS_MOST || depth == NESTED_MOST) {
                return false;
            }
            int begin = at;
            at++;
            if (!isSmall(content.at(at))) {
                return false;
            }
            int element = addElement(begin);
            at++;
            for (int turn = 0; turn < ATTRIBUTES_MOST && content.at(at) == ' '; turn++) {
                if (!takeAttribute(element)) {
                    return false;
                }
            }
            if (content.at(at) == '/') {
                at++;
                return take('>');
            }
            open = element;
            depth++;
            return take('>');
        }

        private int addElement(int begin) {
            kinds[count] = content.at(begin + 1);
            begins[count] = begin;
            parents[count] = open;
            firstAttributes[count] = attributes;
            attributeEnds[count] = attributes;
            count++;
            return count - 1;
        }

        private boolean takeEnd() {
            at += 2;
            if (!take(kinds[open]) || !take('>')) {
                return false;
            }
            open = parents[open];
            depth--;
            return true;
        }

        private boolean takeAttribute(int element) {
            at++;
            int letter = content.at(at);
            if (!isSmall(letter) || attribute(element, letter) != NONE || attributes == ATTRIBUTES_MOST) {
                return false;
            }
            int mine = attributes;
            attributePlaces[mine] = at;
            valueSizes[mine] = 0;
            attributes++;
            attributeEnds[element] = attributes;
            at++;
            if (!take('=') || !take('"')) {
                return false;
            }
            for (int turn = 0; turn < CONTENT_MOST && isOfValue(content.at(at)); turn++) {
                valueSizes[mine]++;
                at++;
            }
            return take('"');
        }

        private boolean take(int sign) {
            if (content.at(at) != sign) {
                return false;
            }
            at++;
            return true;
        }

        private static boolean isOfValue(int sign) {
            return isCapital(sign) || isSmall(sign) || isDigit(sign);
        }

        /** Which attribute with that letter an element has, or NONE. */
        int attribute(int element, int letter) {
            for (int a = firstAttributes[element]; a < attributeEnds[element]; a++) {
                if (content.at(attributePlaces[a]) == letter) {
                    return a;
                }
            }
            return NONE;
        }

        int valueSign(int attribute, int i) {
            return content.at(attributePlaces[attribute] + 3 + i);
        }

        int valueNumber(int attribute) {
            int number = 0;
            for (int i = 0; i < valueSizes[attribute]; i++) {
                number = 10 * number + valueSign(attribute, i) - '0';
            }
            return number;
        }

        int firstLetter(int element) {
            for (int i = begins[element]; i < content.size; i++) {
                if (owners[i] == element) {
                    return i;
                }
            }
            return NONE;
        }

        boolean hasDirectlyIn(int element, int kind, int otherKind) {
            for (int e = element + 1; e < count; e++) {
                if (parents[e] == element && (kinds[e] == kind || kinds[e] == otherKind)) {
                    return true;
                }
            }
            return false;
        }
    }

    /** Which elements, attributes and letters may stand where: the faults 5. */
    private static final class Rules {
        static int firstFault(Elements in, int outermost) {
            for (int element = 0; element < in.count; element++) {
                int place = faultOf(in, element, outermost);
                if (place != NONE) {
                    return place;
                }
            }
            return NONE;
        }

        private static int faultOf(Elements in, int element, int outermost) {
            int kind = in.kinds[element];
            int parent = in.parents[element];
            boolean stands = parent == NONE ? kind == outermost : mayStandIn(kind, in.kinds[parent]);
            if (!stands) {
                return in.begins[element];
            }
            for (int a = in.firstAttributes[element]; a < in.attributeEnds[element]; a++) {
                if (!mayHave(in, kind, a)) {
                    return in.attributePlaces[a];
                }
            }
            if (kind == 's' && in.attribute(element, 'n') == NONE) {
                return in.begins[element];
            }
            int letter = kind == 'p' || kind == 'x' ? NONE : in.firstLetter(element);
            if (letter != NONE) {
                return letter;
            }
            return lacksElement(in, element) ? in.begins[element] : NONE;
        }

        private static boolean mayStandIn(int kind, int parentKind) {
            switch (parentKind) {
                case 't':
                    return kind == 's';
                case 'd':
                case 'i':
                    return kind == 'p' || kind == 'l';
                case 'l':
                    return kind == 'i';
                case 'p':
                case 'x':
                    return kind == 'x';
                default:
                    return false;
            }
        }

        private static boolean mayHave(Elements in, int kind, int attribute) {
            int letter = in.content.at(in.attributePlaces[attribute]);
            int size = in.valueSizes[attribute];
            int first = size == 0 ? NONE : in.valueSign(attribute, 0);
            if (kind == 'p' || kind == 'x') {
                return letter == 'y' && size == 1 && isCapital(first);
            }
            if (kind != 's') {
                return false;
            }
            switch (letter) {
                case 'n':
                case 'f':
                    return size == 1 && isCapital(first);
                case 'b':
                    return size == 1 && (first == '0' || first == '1');
                case 'z':
                    return isDigit(first) && first != '0'
                            && (size == 1 || size == 2 && isDigit(in.valueSign(attribute, 1)));
                case 'k':
                    return size == 1 && isDigit(first);
                default:
                    return false;
            }
        }

        private static boolean lacksElement(Elements in, int element) {
            int kind = in.kinds[element];
            return kind == 'l' && !in.hasDirectlyIn(element, 'i', 'i')
                    || kind == 'i' && !in.hasDirectlyIn(element, 'p', 'l');
        }
    }

    /** The styles of a package by their names: the faults 6, and what each style gives. */
    private static final class Styles {
        private final Elements sheet;
        private final Elements body;
        private final int[] styleOf;

        /** What the style with each name gives, its own or its parents'; NONE when it gives none. */
        private final int[] givenB;
        private final int[] givenZ;
        private final int[] givenK;

        Styles(Elements sheet, Elements body) {
            this.sheet = sheet;
            this.body = body;
            styleOf = new int[CAPITALS];
            givenB = new int[CAPITALS];
            givenZ = new int[CAPITALS];
            givenK = new int[CAPITALS];
        }

        int firstFault() {
            int style = firstNamedAgain();
            if (style == NONE) {
                style = firstWithoutName(sheet, 'f');
            }
            if (style == NONE) {
                style = firstWithoutEnd();
            }
            if (style != NONE) {
                return sheet.begins[style];
            }
            int element = firstWithoutName(body, 'y');
            return element == NONE ? NONE : BODY_PLACES + body.begins[element];
        }

        private int firstNamedAgain() {
            Arrays.fill(styleOf, NONE);
            for (int style = 1; style < sheet.count; style++) {
                int name = nameIn(sheet, style, 'n');
                if (name != NONE && styleOf[name] != NONE) {
                    return style;
                }
                if (name != NONE) {
                    styleOf[name] = style;
                }
            }
            return NONE;
        }

        private int firstWithoutName(Elements in, int letter) {
            for (int element = 0; element < in.count; element++) {
                int name = nameIn(in, element, letter);
                if (name != NONE && styleOf[name] == NONE) {
                    return element;
                }
            }
            return NONE;
        }

        private int firstWithoutEnd() {
            for (int style = 1; style < sheet.count; style++) {
                int ancestor = style;
                for (int turn = 0; turn < CAPITALS && ancestor != NONE; turn++) {
                    ancestor = parentOf(ancestor);
                }
                if (ancestor != NONE) {
                    return style;
                }
            }
            return NONE;
        }

        private int parentOf(int style) {
            int name = nameIn(sheet, style, 'f');
            return name == NONE ? NONE : styleOf[name];
        }

        /** The number of the capital letter that an attribute has for a value, or NONE. */
        private static int nameIn(Elements in, int element, int letter) {
            int attribute = in.attribute(element, letter);
            if (attribute == NONE || !isCapital(in.valueSign(attribute, 0))) {
                return NONE;
            }
            return in.valueSign(attribute, 0) - 'A';
        }

        void settle() {
            for (int name = 0; name < CAPITALS; name++) {
                givenB[name] = given(styleOf[name], 'b');
                givenZ[name] = given(styleOf[name], 'z');
                givenK[name] = given(styleOf[name], 'k');
            }
        }

        private int given(int style, int letter) {
            int giver = style;
            for (int turn = 0; turn < CAPITALS && giver != NONE; turn++) {
                int attribute = sheet.attribute(giver, letter);
                if (attribute != NONE) {
                    return sheet.valueNumber(attribute);
                }
                giver = parentOf(giver);
            }
            return NONE;
        }

        /** The look of an element of the body within something that has another look. */
        int lookOf(int element, int around) {
            int name = nameIn(body, element, 'y');
            if (name == NONE) {
                return around;
            }
            int b = givenB[name] != NONE ? givenB[name] : numberOfLook(around, 0);
            int z = givenZ[name] != NONE ? givenZ[name] : numberOfLook(around, 1);
            int k = givenK[name] != NONE ? givenK[name] : numberOfLook(around, 2);
            return 1000 * b + 10 * z + k;
        }
    }

    /** A document in its plain form; without nodes it is an empty slot. */
    private static final class Paper {
        final int[] kinds;
        final int[] aboves;
        final int[] looks;
        final int[] starts;
        final int[] sizes;
        final Row signs;
        int count;

        Paper(int nodesMost, int signsMost) {
            kinds = new int[nodesMost];
            aboves = new int[nodesMost];
            looks = new int[nodesMost];
            starts = new int[nodesMost];
            sizes = new int[nodesMost];
            signs = new Row(signsMost);
        }

        void clear() {
            count = 0;
            signs.clear();
        }

        /** False when there is no room for another node. */
        boolean add(int kind, int above, int look) {
            if (count >= kinds.length) {
                return false;
            }
            kinds[count] = kind;
            aboves[count] = above;
            looks[count] = look;
            starts[count] = signs.size;
            sizes[count] = 0;
            count++;
            return true;
        }

        /** Only the latest node can grow: its letters are the last ones in the row. */
        void addSign(int sign) {
            if (count > 0) {
                signs.put(sign);
                sizes[count - 1] = signs.size - starts[count - 1];
            }
        }

        void addCopy(Paper from, int node, int above) {
            if (add(from.kinds[node], above, from.looks[node])) {
                for (int i = 0; i < from.sizes[node]; i++) {
                    signs.put(from.signs.at(from.starts[node] + i));
                }
                sizes[count - 1] = signs.size - starts[count - 1];
            }
        }

        void copyFrom(Paper from) {
            clear();
            for (int node = 0; node < from.count; node++) {
                addCopy(from, node, from.aboves[node]);
            }
        }

        int signAt(int node, int i) {
            return i >= 0 && i < sizes[node] ? signs.at(starts[node] + i) : NONE;
        }

        boolean endsInRun(int look) {
            return count > 0 && kinds[count - 1] == RUN && looks[count - 1] == look;
        }

        /** A node comes right before the first one in it. */
        boolean isEmptyNode(int node) {
            return node + 1 >= count || aboves[node + 1] != node;
        }
    }

    /** Makes the plain form of a body without faults. */
    private static final class Builder {
        private final Elements body;
        private final Styles styles;
        private final Paper paper;
        private final int[] elementLooks;
        private final int[] elementNodes;
        private int paragraph;

        Builder(Elements body, Styles styles, Paper paper) {
            this.body = body;
            this.styles = styles;
            this.paper = paper;
            elementLooks = new int[ELEMENTS_MOST];
            elementNodes = new int[ELEMENTS_MOST];
        }

        /** False when there would be too many nodes. */
        boolean build() {
            paper.clear();
            paragraph = NONE;
            int next = 0;
            for (int at = 0; at < body.content.size; at++) {
                boolean fits = true;
                if (next < body.count && body.begins[next] == at) {
                    fits = addElement(next);
                    next++;
                } else if (body.owners[at] != NONE) {
                    fits = addLetter(elementLooks[body.owners[at]], body.content.at(at));
                }
                if (!fits) {
                    return false;
                }
            }
            return true;
        }

        private boolean addElement(int element) {
            int parent = body.parents[element];
            int node = parent == NONE ? NONE : elementNodes[parent];
            elementNodes[element] = paper.count;
            elementLooks[element] = NONE;
            switch (body.kinds[element]) {
                case 'x':
                    elementNodes[element] = node;
                    elementLooks[element] = styles.lookOf(element, parent == NONE ? USUAL_LOOK : elementLooks[parent]);
                    return true;
                case 'p':
                    paragraph = paper.count;
                    elementLooks[element] = styles.lookOf(element, USUAL_LOOK);
                    return paper.add(PARAGRAPH, node, elementLooks[element]);
                case 'l':
                    return paper.add(LIST, node, NONE);
                case 'i':
                    return paper.add(ITEM, node, NONE);
                default:
                    return paper.add(SHEET, node, NONE);
            }
        }

        /** A run is never the latest node when another paragraph has begun, so looks alone decide. */
        private boolean addLetter(int look, int sign) {
            if (!paper.endsInRun(look) && !paper.add(RUN, paragraph, look)) {
                return false;
            }
            paper.addSign(sign);
            return true;
        }
    }

    /** Reads a text to a plain form of its own, so that a fault leaves the slots alone. */
    private static final class Reader {
        final Paper paper;
        int faultPlace;
        private final Part sheetPart;
        private final Part bodyPart;
        private final Elements sheet;
        private final Elements body;
        private final Styles styles;
        private final Builder builder;

        Reader() {
            paper = new Paper(NODES_MOST, CONTENT_MOST);
            faultPlace = NONE;
            sheetPart = new Part('S');
            bodyPart = new Part('C');
            sheet = new Elements(sheetPart.content);
            body = new Elements(bodyPart.content);
            styles = new Styles(sheet, body);
            builder = new Builder(body, styles, paper);
        }

        int findFault(Row text) {
            if (isFault(packageFault(text))) {
                return 1;
            }
            int fault = contentFault(sheetPart, text);
            if (fault == 0) {
                fault = contentFault(bodyPart, text);
            }
            if (fault != 0) {
                return fault;
            }
            if (isFault(sheet.parse()) || isFault(inBody(body.parse()))) {
                return 4;
            }
            if (isFault(Rules.firstFault(sheet, 't')) || isFault(inBody(Rules.firstFault(body, 'd')))) {
                return 5;
            }
            if (isFault(styles.firstFault())) {
                return 6;
            }
            styles.settle();
            return isFault(builder.build() ? NONE : 0) ? 7 : 0;
        }

        private boolean isFault(int place) {
            faultPlace = place;
            return place != NONE;
        }

        private static int inBody(int place) {
            return place == NONE ? NONE : BODY_PLACES + place;
        }

        private int packageFault(Row text) {
            int place = sheetPart.scan(text, 0);
            if (place == NONE) {
                place = bodyPart.scan(text, sheetPart.end());
            }
            if (place == NONE && bodyPart.end() < text.size) {
                place = bodyPart.end();
            }
            return place;
        }

        private int contentFault(Part part, Row text) {
            if (isFault(part.unpack(text))) {
                return 2;
            }
            return isFault(part.checkFault(text)) ? 3 : 0;
        }
    }

    /** The rows and weights of a document; a row ends with END, the number behind all nodes. */
    private static final class Tree {
        static final int END = NODES_MOST;

        final Paper paper;
        final int[] firsts;
        final int[] nexts;
        final int[] weights;
        /** The weights of a node and of those behind it in its row. */
        final int[] rowWeights;

        Tree(Paper paper) {
            this.paper = paper;
            firsts = new int[NODES_MOST];
            nexts = new int[NODES_MOST];
            weights = new int[NODES_MOST];
            rowWeights = new int[NODES_MOST + 1];
        }

        /** From the last node to the first, so that all that is in a node is done before it. */
        void link() {
            for (int node = 0; node < paper.count; node++) {
                firsts[node] = END;
                nexts[node] = END;
                weights[node] = 1 + paper.sizes[node];
            }
            rowWeights[END] = 0;
            for (int node = paper.count - 1; node >= 0; node--) {
                int above = paper.aboves[node];
                if (above != NONE) {
                    nexts[node] = firsts[above];
                    firsts[above] = node;
                    weights[above] += weights[node];
                }
                rowWeights[node] = weights[node] + rowWeights[nexts[node]];
            }
        }
    }

    /** The least cost between two documents, the script from one to the other, and what comes of it. */
    private static final class Script {
        private static final int TAKEN_OUT = -2;

        /** Each node is come to, left, taken out or put in at most once. */
        private static final int TURNS_MOST = 4 * NODES_MOST;

        boolean found;
        int count;
        final int[] oldNodes;
        final int[] freshNodes;

        /** Where a new one is put in: the old node above, and the one in front of which it comes. */
        private final int[] insertRows;
        private final int[] insertPlaces;

        private final Tree old;
        private final Tree fresh;
        private final Paper result;

        /** The cost of two nodes; only those of the same kind have one. */
        private final int[][] costs;

        /** The least cost from a node and those behind it in its row to another and those behind it. */
        private final int[][] rowCosts;

        /** For each old node NONE as long as it stays as it was, TAKEN_OUT, or what it is changed to. */
        private final int[] fates;

        /** The node in the result that an old one has become. */
        private final int[] copies;
        private int applied;

        Script(Paper from, Paper to, Paper result) {
            old = new Tree(from);
            fresh = new Tree(to);
            this.result = result;
            oldNodes = new int[STEPS_MOST];
            freshNodes = new int[STEPS_MOST];
            insertRows = new int[STEPS_MOST];
            insertPlaces = new int[STEPS_MOST];
            costs = new int[NODES_MOST][NODES_MOST];
            rowCosts = new int[NODES_MOST + 1][NODES_MOST + 1];
            fates = new int[NODES_MOST];
            copies = new int[NODES_MOST];
        }

        void drop() {
            found = false;
            count = 0;
        }

        int find() {
            old.link();
            fresh.link();
            fillCosts();
            drop();
            found = true;
            addSteps();
            return costs[0][0];
        }

        /** From the last nodes to the first: what a cost is made of has greater numbers. */
        private void fillCosts() {
            rowCosts[Tree.END][Tree.END] = 0;
            for (int j = 0; j < fresh.paper.count; j++) {
                rowCosts[Tree.END][j] = fresh.rowWeights[j];
            }
            for (int i = old.paper.count - 1; i >= 0; i--) {
                rowCosts[i][Tree.END] = old.rowWeights[i];
                for (int j = fresh.paper.count - 1; j >= 0; j--) {
                    int least = Math.min(costTakingOut(i, j), costPuttingIn(i, j));
                    if (sameKind(i, j)) {
                        costs[i][j] = costOfChange(i, j) + rowCosts[old.firsts[i]][fresh.firsts[j]];
                        least = Math.min(least, costTogether(i, j));
                    }
                    rowCosts[i][j] = least;
                }
            }
        }

        private int costTakingOut(int i, int j) {
            return old.weights[i] + rowCosts[old.nexts[i]][j];
        }

        private int costPuttingIn(int i, int j) {
            return fresh.weights[j] + rowCosts[i][fresh.nexts[j]];
        }

        private int costTogether(int i, int j) {
            return costs[i][j] + rowCosts[old.nexts[i]][fresh.nexts[j]];
        }

        private boolean sameKind(int i, int j) {
            return old.paper.kinds[i] == fresh.paper.kinds[j];
        }

        private int costOfChange(int i, int j) {
            if (!sameSigns(i, j)) {
                return 2;
            }
            return old.paper.looks[i] == fresh.paper.looks[j] ? 0 : 1;
        }

        private boolean sameSigns(int i, int j) {
            int size = old.paper.sizes[i];
            if (size != fresh.paper.sizes[j]) {
                return false;
            }
            for (int k = 0; k < size; k++) {
                if (old.paper.signAt(i, k) != fresh.paper.signAt(j, k)) {
                    return false;
                }
            }
            return true;
        }

        /** Where the rows in a pair end, the walk goes on behind the pair in the rows around it. */
        private void addSteps() {
            int a = 0;
            int b = 0;
            addChange(a, b);
            int i = old.firsts[a];
            int j = fresh.firsts[b];
            for (int turn = 0; turn < TURNS_MOST; turn++) {
                if (i == Tree.END && j == Tree.END) {
                    if (a == 0 || b == 0) {
                        return;
                    }
                    i = old.nexts[a];
                    j = fresh.nexts[b];
                    a = old.paper.aboves[a];
                    b = fresh.paper.aboves[b];
                } else if (isLeastTogether(i, j)) {
                    a = i;
                    b = j;
                    addChange(a, b);
                    i = old.firsts[a];
                    j = fresh.firsts[b];
                } else if (i != Tree.END && rowCosts[i][j] == costTakingOut(i, j)) {
                    addStep(i, NONE, NONE, NONE);
                    i = old.nexts[i];
                } else {
                    addStep(NONE, j, a, i);
                    j = fresh.nexts[j];
                }
            }
        }

        private void addChange(int a, int b) {
            if (costOfChange(a, b) != 0) {
                addStep(a, b, NONE, NONE);
            }
        }

        private boolean isLeastTogether(int i, int j) {
            return i != Tree.END && j != Tree.END && sameKind(i, j) && rowCosts[i][j] == costTogether(i, j);
        }

        private void addStep(int oldNode, int freshNode, int row, int place) {
            if (count < STEPS_MOST) {
                oldNodes[count] = oldNode;
                freshNodes[count] = freshNode;
                insertRows[count] = row;
                insertPlaces[count] = place;
                count++;
            }
        }

        /** Makes the result of the first steps of a script that has as many. */
        void carryOut(int stepsToDo) {
            applied = stepsToDo;
            Arrays.fill(fates, NONE);
            for (int k = 0; k < applied; k++) {
                if (oldNodes[k] != NONE) {
                    fates[oldNodes[k]] = freshNodes[k] == NONE ? TAKEN_OUT : freshNodes[k];
                }
            }
            result.clear();
            copyRows();
        }

        /** What is in a node that was taken out is taken out with it. */
        private void copyRows() {
            int open = NONE;
            for (int node = 0; node < old.paper.count; node++) {
                int above = old.paper.aboves[node];
                if (above != NONE && fates[above] == TAKEN_OUT) {
                    fates[node] = TAKEN_OUT;
                    continue;
                }
                endRows(open, above);
                putIn(above, node);
                open = above;
                if (fates[node] != TAKEN_OUT) {
                    copyOld(node, above == NONE ? NONE : copies[above]);
                    open = node;
                }
            }
            endRows(open, NONE);
        }

        private void copyOld(int node, int above) {
            copies[node] = result.count;
            if (fates[node] == NONE) {
                result.addCopy(old.paper, node, above);
            } else {
                result.addCopy(fresh.paper, fates[node], above);
            }
        }

        /** Ends the rows in a node and in those around it, up to, but not with, one of these. */
        private void endRows(int from, int upTo) {
            int open = from;
            for (int turn = 0; turn < NODES_MOST && open != upTo && open != NONE; turn++) {
                putIn(open, Tree.END);
                open = old.paper.aboves[open];
            }
        }

        /** Those before an old one were put together or taken out by the time a new one comes there. */
        private void putIn(int row, int place) {
            for (int k = 0; k < applied && row != NONE; k++) {
                if (insertRows[k] == row && insertPlaces[k] == place) {
                    copyFresh(freshNodes[k], copies[row]);
                }
            }
        }

        private void copyFresh(int node, int above) {
            int moved = result.count - node;
            result.addCopy(fresh.paper, node, above);
            for (int n = node + 1; n < fresh.paper.count && fresh.paper.aboves[n] >= node; n++) {
                result.addCopy(fresh.paper, n, fresh.paper.aboves[n] + moved);
            }
        }
    }

    /** Writes a document as a package into a row of its own, so that a refusal leaves the text alone. */
    private static final class Emitter {
        final Row whole;
        private final Row sheet;
        private final Row body;
        private final Row data;
        private final int[] needed;
        private int neededCount;

        Emitter() {
            whole = new Row(TEXT_MOST);
            sheet = new Row(CONTENT_MOST);
            body = new Row(CONTENT_MOST);
            data = new Row(CONTENT_MOST);
            needed = new int[CAPITALS];
        }

        /** False when there is no such package. */
        boolean compose(Paper paper, int method) {
            if (!gatherLooks(paper)) {
                return false;
            }
            putSheet();
            putBody(paper);
            if (sheet.over || body.over) {
                return false;
            }
            whole.clear();
            putPart('S', sheet, method);
            putPart('C', body, method);
            return !whole.over;
        }

        private boolean gatherLooks(Paper paper) {
            neededCount = 0;
            for (int node = 0; node < paper.count; node++) {
                if (needsLook(paper, node) && styleFor(paper.looks[node]) == NONE) {
                    if (neededCount == CAPITALS) {
                        return false;
                    }
                    needed[neededCount] = paper.looks[node];
                    neededCount++;
                }
            }
            return true;
        }

        private static boolean needsLook(Paper paper, int node) {
            int above = paper.aboves[node];
            if (paper.kinds[node] == RUN && above != NONE) {
                return paper.looks[node] != paper.looks[above];
            }
            return paper.kinds[node] == PARAGRAPH && paper.looks[node] != USUAL_LOOK;
        }

        private int styleFor(int look) {
            for (int style = 0; style < neededCount; style++) {
                if (needed[style] == look) {
                    return style;
                }
            }
            return NONE;
        }

        private void putSheet() {
            sheet.clear();
            if (neededCount == 0) {
                sheet.putText("<t/>");
                return;
            }
            sheet.putText("<t>");
            for (int style = 0; style < neededCount; style++) {
                putStyle(style);
            }
            sheet.putText("</t>");
        }

        private void putStyle(int style) {
            int z = numberOfLook(needed[style], 1);
            sheet.putText("<s n=\"");
            sheet.put('A' + style);
            sheet.putText("\" b=\"");
            sheet.put('0' + numberOfLook(needed[style], 0));
            sheet.putText("\" z=\"");
            if (z > 9) {
                sheet.put('0' + z / 10);
            }
            sheet.put('0' + z % 10);
            sheet.putText("\" k=\"");
            sheet.put('0' + numberOfLook(needed[style], 2));
            sheet.putText("\"/>");
        }

        private void putBody(Paper paper) {
            body.clear();
            int open = NONE;
            for (int node = 0; node < paper.count; node++) {
                putEnds(paper, open, paper.aboves[node]);
                open = paper.aboves[node];
                if (paper.kinds[node] == RUN) {
                    putRun(paper, node);
                } else {
                    putBegin(paper, node);
                    open = paper.isEmptyNode(node) ? open : node;
                }
            }
            putEnds(paper, open, NONE);
        }

        /** Ends what is open from a node up to, but not with, one around it. */
        private void putEnds(Paper paper, int from, int upTo) {
            int open = from;
            for (int turn = 0; turn < paper.count && open != upTo && open != NONE; turn++) {
                putEnd(paper, open);
                open = paper.aboves[open];
            }
        }

        private void putBegin(Paper paper, int node) {
            body.put('<');
            body.put(ELEMENT_LETTERS.charAt(paper.kinds[node]));
            if (needsLook(paper, node)) {
                body.putText(" y=\"");
                body.put('A' + styleFor(paper.looks[node]));
                body.put('"');
            }
            if (paper.kinds[node] != RUN && paper.isEmptyNode(node)) {
                body.put('/');
            }
            body.put('>');
        }

        private void putEnd(Paper paper, int node) {
            body.putText("</");
            body.put(ELEMENT_LETTERS.charAt(paper.kinds[node]));
            body.put('>');
        }

        private void putRun(Paper paper, int node) {
            boolean needs = needsLook(paper, node);
            if (needs) {
                putBegin(paper, node);
            }
            for (int i = 0; i < paper.sizes[node]; i++) {
                body.put(paper.signAt(node, i));
            }
            if (needs) {
                putEnd(paper, node);
            }
        }

        private void putPart(int name, Row content, int method) {
            data.clear();
            if (method == 1) {
                pack(content);
            } else {
                data.putAll(content);
            }
            whole.put(name);
            whole.put('0' + method);
            whole.put('0' + data.size / 100);
            whole.put('0' + data.size / 10 % 10);
            whole.put('0' + data.size % 10);
            whole.putAll(data);
            int sum = content.checkSum();
            for (int shift = 12; shift >= 0; shift -= 4) {
                whole.put(hexDigit(sum >> shift & 15));
            }
        }

        private void pack(Row content) {
            for (int at = 0; at < content.size; at++) {
                int back = bestBack(content, at);
                if (back == NONE) {
                    data.put(content.at(at));
                } else {
                    int same = sameFrom(content, at, back);
                    data.put('~');
                    data.put('0' + back / 10);
                    data.put('0' + back % 10);
                    data.put('0' + same - SHORTEST_REFERENCE);
                    at += same - 1;
                }
            }
        }

        private static int bestBack(Row content, int at) {
            int best = NONE;
            int most = SHORTEST_REFERENCE - 1;
            for (int back = 1; back <= FARTHEST_REFERENCE && back <= at; back++) {
                int same = sameFrom(content, at, back);
                if (same > most) {
                    most = same;
                    best = back;
                }
            }
            return best;
        }

        private static int sameFrom(Row content, int at, int back) {
            int same = 0;
            while (same < LONGEST_REFERENCE && at + same < content.size
                    && content.at(at + same) == content.at(at + same - back)) {
                same++;
            }
            return same;
        }
    }
}
