import java.util.ArrayDeque;
import java.util.ArrayList;
import java.util.Deque;
import java.util.HashMap;
import java.util.HashSet;
import java.util.List;
import java.util.Map;
import java.util.Set;

/** The document's words a second time, slow and by other means, for tests that compare both. */
final class Model {
    static final class Fault extends RuntimeException {
        private static final long serialVersionUID = 1L;
        final int number;
        final int place;

        Fault(int number, int place) {
            this.number = number;
            this.place = place;
        }
    }

    static final class Element {
        char kind;
        int begin;
        int firstLetter = -1;
        Element parent;
        final List<Object> in = new ArrayList<>();
        final Map<Character, String> attributes = new HashMap<>();
        final List<Integer> attributePlaces = new ArrayList<>();
        final List<Character> attributeLetters = new ArrayList<>();
    }

    static final class Node {
        final char kind;
        String look = "-1 -1 -1";
        String letters = "";
        final List<Node> in = new ArrayList<>();
        boolean settled;

        Node(char kind) {
            this.kind = kind;
        }

        Node copy() {
            Node other = new Node(kind);
            other.look = look;
            other.letters = letters;
            for (Node child : in) {
                other.in.add(child.copy());
            }
            return other;
        }

        List<Node> all() {
            List<Node> row = new ArrayList<>();
            row.add(this);
            for (Node child : in) {
                row.addAll(child.all());
            }
            return row;
        }

        int weight() {
            int sum = 1 + letters.length();
            for (Node child : in) {
                sum += child.weight();
            }
            return sum;
        }
    }

    private Model() {
    }

    static Node read(String text) {
        String[] parts = new String[2];
        int[] dataAt = new int[2];
        splitParts(text, parts, dataAt);
        String[] contents = new String[2];
        for (int p = 0; p < 2; p++) {
            String data = parts[p].substring(5, parts[p].length() - 4);
            contents[p] = parts[p].charAt(1) == '0' ? data : unpack(data, dataAt[p]);
            if (contents[p].length() > 300) {
                throw new Fault(2, dataAt[p] + 300);
            }
            if (!parts[p].endsWith(Parcels.check(contents[p]))) {
                throw new Fault(3, dataAt[p] + data.length());
            }
        }
        List<Element> s = parse(contents[0], 0);
        List<Element> c = parse(contents[1], 1000);
        rules(s, 't', 0);
        rules(c, 'd', 1000);
        Map<String, Element> styles = styles(s, c);
        Node sheet = plainForm(c.get(0), styles);
        if (sheet.all().size() > 40) {
            throw new Fault(7, 0);
        }
        return sheet;
    }

    private static void splitParts(String text, String[] parts, int[] dataAt) {
        int from = 0;
        for (int p = 0; p < 2; p++) {
            String[] allowed = {p == 0 ? "S" : "C", "01", "0123456789", "0123456789", "0123456789"};
            for (int i = 0; i < 5; i++) {
                must(text, from + i, allowed[i]);
            }
            int check = from + 5 + Integer.parseInt(text.substring(from + 2, from + 5));
            if (check > text.length()) {
                throw new Fault(1, text.length());
            }
            for (int i = 0; i < 4; i++) {
                must(text, check + i, "0123456789abcdef");
            }
            parts[p] = text.substring(from, check + 4);
            dataAt[p] = from + 5;
            from = check + 4;
        }
        if (from < text.length()) {
            throw new Fault(1, from);
        }
    }

    private static void must(String text, int at, String allowed) {
        if (at >= text.length() || allowed.indexOf(text.charAt(at)) < 0) {
            throw new Fault(1, at);
        }
    }

    private static String unpack(String data, int dataAt) {
        StringBuilder content = new StringBuilder();
        int at = 0;
        while (at < data.length()) {
            String rest = data.substring(at);
            String more = rest.substring(0, 1);
            int used = 1;
            if (more.equals("~")) {
                if (!rest.matches("~[0-9]{3}.*")) {
                    throw new Fault(2, dataAt + at);
                }
                int back = Integer.parseInt(rest.substring(1, 3));
                if (back == 0 || back > content.length()) {
                    throw new Fault(2, dataAt + at);
                }
                String seed = content.substring(content.length() - back);
                more = seed.repeat(14).substring(0, 5 + rest.charAt(3) - '0');
                used = 4;
            }
            content.append(more);
            if (content.length() > 300) {
                throw new Fault(2, dataAt + at);
            }
            at += used;
        }
        return content.toString();
    }

    /** One character after the other, by the name of the state in which it comes. */
    private static List<Element> parse(String content, int more) {
        List<Element> all = new ArrayList<>();
        Deque<Element> open = new ArrayDeque<>();
        Element now = null;
        String state = "start";
        for (int at = 0; at < content.length(); at++) {
            char sign = content.charAt(at);
            boolean small = sign >= 'a' && sign <= 'z';
            String next = "";
            switch (state) {
                case "start":
                    next = sign == '<' ? "kind" : "";
                    break;
                case "inside":
                    if (sign == '<' && content.startsWith("</", at)) {
                        next = "slash";
                    } else if (sign == '<') {
                        next = all.size() < 30 && open.size() < 8 ? "kind" : "";
                    } else if (">&~".indexOf(sign) < 0) {
                        Element owner = open.peek();
                        owner.in.add(sign);
                        owner.firstLetter = owner.firstLetter < 0 ? at : owner.firstLetter;
                        next = "inside";
                    }
                    break;
                case "slash":
                    next = "endKind";
                    break;
                case "endKind":
                    next = sign == open.peek().kind ? "endEnd" : "";
                    break;
                case "endEnd":
                    if (sign == '>') {
                        open.pop();
                        next = open.isEmpty() ? "over" : "inside";
                    }
                    break;
                case "kind":
                    if (small) {
                        now = new Element();
                        now.kind = sign;
                        now.begin = at - 1;
                        now.parent = open.peek();
                        if (now.parent != null) {
                            now.parent.in.add(now);
                        }
                        all.add(now);
                        next = "behindAttribute";
                    }
                    break;
                case "behindAttribute":
                    if (sign == '>') {
                        open.push(now);
                        next = "inside";
                    } else {
                        next = sign == ' ' ? "letter" : sign == '/' ? "emptyEnd" : "";
                    }
                    break;
                case "emptyEnd":
                    next = sign != '>' ? "" : open.isEmpty() ? "over" : "inside";
                    break;
                case "letter":
                    if (small && !now.attributes.containsKey(sign)) {
                        now.attributes.put(sign, "");
                        now.attributeLetters.add(sign);
                        now.attributePlaces.add(at);
                        next = "equals";
                    }
                    break;
                case "equals":
                    next = sign == '=' ? "quote" : "";
                    break;
                case "quote":
                    next = sign == '"' ? "value" : "";
                    break;
                case "value":
                    char letter = now.attributeLetters.get(now.attributeLetters.size() - 1);
                    if (sign == '"') {
                        next = "behindAttribute";
                    } else if (String.valueOf(sign).matches("[A-Za-z0-9]")) {
                        now.attributes.put(letter, now.attributes.get(letter) + sign);
                        next = "value";
                    }
                    break;
                default:
                    break;
            }
            if (next.isEmpty()) {
                throw new Fault(4, more + at);
            }
            state = next;
        }
        if (!state.equals("over")) {
            throw new Fault(4, more + content.length());
        }
        return all;
    }

    private static void rules(List<Element> all, char outermost, int more) {
        Set<String> pairs = Set.of("ts", "dp", "dl", "px", "xx", "li", "ip", "il");
        Map<String, String> values = Map.of("sn", "[A-Z]", "sf", "[A-Z]", "sb", "[01]", "sz", "[1-9][0-9]?",
                "sk", "[0-9]", "py", "[A-Z]", "xy", "[A-Z]");
        for (Element e : all) {
            boolean stands = e.parent == null ? e.kind == outermost : pairs.contains("" + e.parent.kind + e.kind);
            if (!stands) {
                throw new Fault(5, more + e.begin);
            }
            for (int a = 0; a < e.attributeLetters.size(); a++) {
                char letter = e.attributeLetters.get(a);
                String form = values.get("" + e.kind + letter);
                if (form == null || !e.attributes.get(letter).matches(form)) {
                    throw new Fault(5, more + e.attributePlaces.get(a));
                }
            }
            if (e.kind == 's' && !e.attributes.containsKey('n')) {
                throw new Fault(5, more + e.begin);
            }
            if ("px".indexOf(e.kind) < 0 && e.firstLetter >= 0) {
                throw new Fault(5, more + e.firstLetter);
            }
            String kindsIn = "";
            for (Object o : e.in) {
                kindsIn += o instanceof Element ? String.valueOf(((Element) o).kind) : "";
            }
            if (e.kind == 'l' && !kindsIn.contains("i") || e.kind == 'i' && !kindsIn.matches(".*[pl].*")) {
                throw new Fault(5, more + e.begin);
            }
        }
    }

    private static Map<String, Element> styles(List<Element> s, List<Element> c) {
        List<Element> styles = s.subList(1, s.size());
        Map<String, Element> byName = new HashMap<>();
        for (Element e : styles) {
            if (byName.put(e.attributes.get('n'), e) != null) {
                throw new Fault(6, e.begin);
            }
        }
        for (Element e : styles) {
            if (e.attributes.containsKey('f') && !byName.containsKey(e.attributes.get('f'))) {
                throw new Fault(6, e.begin);
            }
        }
        for (Element e : styles) {
            Set<Element> met = new HashSet<>();
            for (Element up = e; up != null; up = byName.get(up.attributes.get('f'))) {
                if (!met.add(up)) {
                    throw new Fault(6, e.begin);
                }
            }
        }
        for (Element e : c) {
            if (e.attributes.containsKey('y') && !byName.containsKey(e.attributes.get('y'))) {
                throw new Fault(6, 1000 + e.begin);
            }
        }
        return byName;
    }

    private static Node plainForm(Element e, Map<String, Element> styles) {
        Node node = new Node(Character.toUpperCase(e.kind == 'd' ? 's' : e.kind));
        if (e.kind == 'p') {
            node.look = lookOf(e, "0 10 0", styles);
            addRuns(node, e, node.look, styles);
            return node;
        }
        for (Object o : e.in) {
            node.in.add(plainForm((Element) o, styles));
        }
        return node;
    }

    private static void addRuns(Node paragraph, Element e, String look, Map<String, Element> styles) {
        for (Object o : e.in) {
            if (o instanceof Element) {
                addRuns(paragraph, (Element) o, lookOf((Element) o, look, styles), styles);
                continue;
            }
            int last = paragraph.in.size() - 1;
            if (last < 0 || !paragraph.in.get(last).look.equals(look)) {
                Node run = new Node('R');
                run.look = look;
                paragraph.in.add(run);
                last++;
            }
            paragraph.in.get(last).letters += o;
        }
    }

    private static String lookOf(Element e, String around, Map<String, Element> styles) {
        String[] numbers = around.split(" ");
        for (int i = 0; i < 3; i++) {
            char letter = "bzk".charAt(i);
            Element style = styles.get(e.attributes.get('y'));
            while (style != null && !style.attributes.containsKey(letter)) {
                style = styles.get(style.attributes.get('f'));
            }
            numbers[i] = style == null ? numbers[i] : style.attributes.get(letter);
        }
        return String.join(" ", numbers);
    }

    static String describe(Node sheet) {
        if (sheet == null) {
            return "";
        }
        StringBuilder all = new StringBuilder();
        List<Node> nodes = sheet.all();
        for (int n = 0; n < nodes.size(); n++) {
            Node node = nodes.get(n);
            int above = -1;
            for (int m = 0; m < n; m++) {
                above = nodes.get(m).in.contains(node) ? m : above;
            }
            all.append(n + " " + node.kind + " in " + above + " look " + node.look);
            all.append(" letters " + node.letters.length() + " '" + node.letters + "'\n");
        }
        return all.toString();
    }

    /** A step: what it does to the old document, and its old and new node; a pair alone is no step. */
    static final class Step {
        final Node old;
        final Node fresh;
        final Node row;
        final boolean pairAlone;

        Step(Node old, Node fresh, Node row, boolean pairAlone) {
            this.old = old;
            this.fresh = fresh;
            this.row = row;
            this.pairAlone = pairAlone;
        }
    }

    static final class Comparison {
        private final Map<String, Integer> known = new HashMap<>();
        private final List<Node> olds;
        private final List<Node> freshs;
        final List<Step> steps = new ArrayList<>();
        final int cost;

        Comparison(Node old, Node fresh) {
            olds = old.all();
            freshs = fresh.all();
            cost = cost(old, fresh);
            addPair(old, fresh);
        }

        private static int change(Node a, Node b) {
            if (!a.letters.equals(b.letters)) {
                return 2;
            }
            return a.look.equals(b.look) ? 0 : 1;
        }

        private int cost(Node a, Node b) {
            return change(a, b) + rows(a, 0, b, 0);
        }

        private int rows(Node a, int i, Node b, int j) {
            String key = olds.indexOf(a) + "," + i + "," + freshs.indexOf(b) + "," + j;
            if (known.containsKey(key)) {
                return known.get(key);
            }
            int least = Integer.MAX_VALUE;
            if (i == a.in.size() && j == b.in.size()) {
                least = 0;
            }
            if (i < a.in.size()) {
                least = Math.min(least, a.in.get(i).weight() + rows(a, i + 1, b, j));
            }
            if (j < b.in.size()) {
                least = Math.min(least, b.in.get(j).weight() + rows(a, i, b, j + 1));
            }
            if (i < a.in.size() && j < b.in.size() && a.in.get(i).kind == b.in.get(j).kind) {
                least = Math.min(least, cost(a.in.get(i), b.in.get(j)) + rows(a, i + 1, b, j + 1));
            }
            known.put(key, least);
            return least;
        }

        private void addPair(Node a, Node b) {
            steps.add(new Step(a, b, null, change(a, b) == 0));
            int i = 0;
            int j = 0;
            while (i < a.in.size() || j < b.in.size()) {
                int least = rows(a, i, b, j);
                Node x = i < a.in.size() ? a.in.get(i) : null;
                Node y = j < b.in.size() ? b.in.get(j) : null;
                if (x != null && y != null && x.kind == y.kind && least == cost(x, y) + rows(a, i + 1, b, j + 1)) {
                    addPair(x, y);
                    i++;
                    j++;
                } else if (x != null && least == x.weight() + rows(a, i + 1, b, j)) {
                    steps.add(new Step(x, null, a, false));
                    i++;
                } else {
                    steps.add(new Step(null, y, a, false));
                    j++;
                }
            }
        }

        String script() {
            StringBuilder all = new StringBuilder();
            for (Step step : steps) {
                if (!step.pairAlone) {
                    all.append(all.length() == 0 ? "" : " ");
                    all.append(olds.indexOf(step.old) + ">" + freshs.indexOf(step.fresh));
                }
            }
            return all.toString();
        }

        int count() {
            int count = 0;
            for (Step step : steps) {
                count += step.pairAlone ? 0 : 1;
            }
            return count;
        }

        /** Does the steps one by one to a copy of the old document, as each is told. */
        Node apply(int n) {
            Node sheet = olds.get(0).copy();
            List<Node> copies = sheet.all();
            int done = 0;
            for (Step step : steps) {
                if (!step.pairAlone && done == n) {
                    break;
                }
                done += step.pairAlone ? 0 : 1;
                Node target = step.old == null ? null : copies.get(olds.indexOf(step.old));
                Node row = step.row == null ? null : copies.get(olds.indexOf(step.row));
                if (step.fresh == null) {
                    row.in.remove(target);
                } else if (step.old == null) {
                    int at = 0;
                    for (int i = 0; i < row.in.size(); i++) {
                        at = row.in.get(i).settled ? i + 1 : at;
                    }
                    Node copy = step.fresh.copy();
                    copy.settled = true;
                    row.in.add(at, copy);
                } else {
                    target.settled = true;
                    target.look = step.fresh.look;
                    target.letters = step.fresh.letters;
                }
            }
            return sheet;
        }
    }

    /** The package of a document, or null when there is none such. */
    static String emit(Node sheet, int method) {
        List<String> looks = new ArrayList<>();
        String c = element(sheet, "0 10 0", looks);
        StringBuilder s = new StringBuilder();
        for (String look : looks) {
            String[] numbers = look.split(" ");
            s.append("<s n=\"" + (char) ('A' + looks.indexOf(look)) + "\" b=\"" + numbers[0] + "\" z=\"" + numbers[1]
                    + "\" k=\"" + numbers[2] + "\"/>");
        }
        String t = looks.isEmpty() ? "<t/>" : "<t>" + s + "</t>";
        if (looks.size() > 26 || t.length() > 300 || c.length() > 300) {
            return null;
        }
        String text = method == 0 ? Parcels.plain(t, c) : Parcels.packed(t, c);
        return text.length() > 480 ? null : text;
    }

    private static String element(Node node, String around, List<String> looks) {
        boolean needs = "PR".indexOf(node.kind) >= 0 && !node.look.equals(around);
        if (needs && !looks.contains(node.look)) {
            looks.add(node.look);
        }
        if (node.kind == 'R' && !needs) {
            return node.letters;
        }
        String kind = String.valueOf("dpxli".charAt("SPRLI".indexOf(node.kind)));
        String begin = "<" + kind + (needs ? " y=\"" + (char) ('A' + looks.indexOf(node.look)) + "\"" : "");
        String in = node.letters;
        for (Node child : node.in) {
            in += element(child, node.kind == 'P' ? node.look : "0 10 0", looks);
        }
        return in.isEmpty() ? begin + "/>" : begin + ">" + in + "</" + kind + ">";
    }

    static String pack(String content) {
        StringBuilder data = new StringBuilder();
        int at = 0;
        while (at < content.length()) {
            int most = 0;
            int best = 0;
            for (int back = 99; back >= 1; back--) {
                if (back > at) {
                    continue;
                }
                String coming = content.substring(at - back, at).repeat(14);
                int same = 0;
                while (same < 14 && at + same < content.length() && coming.charAt(same) == content.charAt(at + same)) {
                    same++;
                }
                if (same >= 5 && same >= most) {
                    most = same;
                    best = back;
                }
            }
            if (most == 0) {
                data.append(content.charAt(at));
                at++;
            } else {
                data.append(String.format("~%02d%d", best, most - 5));
                at += most;
            }
        }
        return data.toString();
    }
}
