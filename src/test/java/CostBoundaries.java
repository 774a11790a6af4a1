/** The sentences of weights, costs and scripts, and those of the promises 14 to 16. */
final class CostBoundaries {
    private static final String LOOKS = "<s n=\"A\" b=\"1\"/><s n=\"B\" z=\"9\"/><s n=\"C\" z=\"11\"/><s n=\"D\" k=\"1\"/>"
            + "<s n=\"E\" b=\"1\" z=\"99\" k=\"9\"/>";
    private static final String LIST = "<l><i><p/></i></l>";

    private CostBoundaries() {
    }

    static void run() {
        weights();
        costsOfLooksAndLetters();
        costsOfRows();
        kindsOfSteps();
        changes();
        togetherOrOut();
        togetherOrIn();
        outOrIn();
        ends();
        comparing();
        countingSteps();
        askingSteps();
    }

    private static void due(String first, String second, String want) {
        Cases.script(LOOKS, first, second, want);
    }

    private static void weight(String row, int weight) {
        due(row, "", weight + ": 1>-1");
        due("", row, weight + ": -1>1");
    }

    private static void weights() {
        Check.says("THE WEIGHT of a run is 1 and the number of its letters; that of another node is 1 and the weights of"
                + " those directly in it.");
        due("", "", "0: ");
        weight("<p/>", 1);
        weight("<p>a</p>", 3);
        weight("<p>ab</p>", 4);
        weight("<p>abc</p>", 5);
        weight("<p y=\"E\"/>", 1);
        weight("<p>a<x y=\"A\">b</x></p>", 5);
        weight("<p>a<x y=\"A\">bc</x>d</p>", 8);
        weight("<p><x/><x/></p>", 1);
        weight(LIST, 3);
        weight("<l><i><p/><p/></i></l>", 4);
        weight("<l><i><p/></i><i><p/></i></l>", 5);
        weight("<l><i>" + LIST + "</i></l>", 5);
        weight("<l><i><p>a</p></i></l>", 5);
        Cases.script("", "<p>" + "q".repeat(285) + "</p>", "", "287: 1>-1");
        Cases.script("", "", "<p>" + "q".repeat(286) + "</p>", "288: -1>1");
        due("<p/><p/>", "", "2: 1>-1 2>-1");
        due("", "<p>a</p>" + LIST, "6: -1>1 -1>3");
    }

    private static void costsOfLooksAndLetters() {
        Check.says("THE COST of two nodes of the same kind is what it takes to make the first one the second: 0 when their"
                + " looks and letters are the same, 2 for runs with other letters, otherwise 1 (a look alone),");
        String[] styles = {"A", "B", "C", "D", "E"};
        for (String style : styles) {
            due("<p/>", "<p y=\"" + style + "\"/>", "1: 1>1");
            due("<p y=\"" + style + "\"/>", "<p/>", "1: 1>1");
            due("<p y=\"" + style + "\">ab</p>", "<p y=\"" + style + "\"><x>a</x>b</p>", "0: ");
            due("<p>ab</p>", "<p><x y=\"" + style + "\">ab</x></p>", "1: 2>2");
            due("<p>ab</p>", "<p><x y=\"" + style + "\">ac</x></p>", "2: 2>2");
            due("<p>ab</p>", "<p y=\"" + style + "\">ab</p>", "2: 1>1 2>2");
            due("<p>ab</p>", "<p y=\"" + style + "\">ac</p>", "3: 1>1 2>2");
        }
        String[] others = {"a", "abc", "ac", "cb", "ba", "AB", "ab ", " ab", "aba"};
        for (String other : others) {
            due("<p>ab</p>", "<p>" + other + "</p>", "2: 2>2");
            due("<p>" + other + "</p>", "<p>ab</p>", "2: 2>2");
        }
        due("<p>ab</p>", "<p>ab</p>", "0: ");
        due(LIST, LIST, "0: ");
        String most = "q".repeat(285);
        Cases.script("", "<p>" + most + "q</p>", "<p>" + most + "r</p>", "2: 2>2");
        Cases.script("", "<p>" + most + "q</p>", "<p>" + most + "</p>", "2: 2>2");
        Cases.script("", "<p>" + most + "q</p>", "<p>" + most + "q</p>", "0: ");
    }

    private static void costsOfRows() {
        Check.says("and, besides, the least that it takes to make the row of nodes in the first the row of those in the"
                + " second, by putting some of the first row with some of the second that are of the same kind, in rising"
                + " order, at their costs, taking out the others of the first and putting in the others of the second at"
                + " their weights.");
        due("<p/>", LIST, "4: 1>-1 -1>1");
        due(LIST, "<p/>", "4: 1>-1 -1>1");
        due("<p>a</p><p>bcd</p>", "<p>bcd</p><p>a</p>", "4: 2>2 4>4");
        due("<p>abcd</p>" + LIST, LIST + "<p>abcd</p>", "6: -1>1 3>-1");
        due("<l><i><p>a</p></i></l>", "<l><i><p>b</p></i></l>", "2: 4>4");
        due("<l><i><p/></i></l>", "<l><i><p/></i><i><p/></i></l>", "2: -1>4");
        due("<l><i><p/></i><i><p/></i></l>", "<l><i><p/></i></l>", "2: 4>-1");
        due("<l><i><p/></i></l>", "<l><i>" + LIST + "</i></l>", "4: 3>-1 -1>3");
        due("<p>abc<x y=\"A\">d</x></p>", "<p><x y=\"A\">d</x></p>", "4: 2>2 3>-1");
        due("<p>ab<x y=\"A\">d</x></p>", "<p><x y=\"A\">d</x></p>", "3: 2>-1");
        due("<p>a</p><p>b</p><p>c</p>", "<p>a</p><p>c</p>", "3: 3>-1");
        due("<p>a</p><p>c</p>", "<p>a</p><p>b</p><p>c</p>", "3: -1>3");
        String twenty = "<p>a</p>".repeat(19) + "<p/>";
        due(twenty, twenty, "0: ");
        due(twenty, "", "58: " + outs(19, 2) + " 39>-1");
        due("<p/>".repeat(29), "", "29: " + outs(29, 1));
        due("<p/>".repeat(28), "<p/>".repeat(29), "1: -1>29");
    }

    private static String outs(int count, int width) {
        StringBuilder all = new StringBuilder();
        for (int i = 0; i < count; i++) {
            all.append(i == 0 ? "" : " ").append(1 + i * width).append(">-1");
        }
        return all.toString();
    }

    private static void kindsOfSteps() {
        Check.says("THE SCRIPT from a document to another is a row of STEPS, each of which has an OLD node, a NEW one, or"
                + " both.");
        due("<p/>", "<p/>", "0: ");
        due("<p/>", "", "1: 1>-1");
        due("", "<p/>", "1: -1>1");
        due("<p/>", "<p y=\"A\"/>", "1: 1>1");
        due("<p y=\"A\">ab</p>" + LIST, "<p>abc</p><p/>", "7: 1>1 2>2 3>-1 -1>3");
    }

    private static void changes() {
        Check.says("For a pair of nodes (first the sheets): if their looks or letters differ, a CHANGE of the old one to"
                + " look and letters of the new one.");
        due("", "", "0: ");
        due("<p>ab</p>", "<p y=\"D\">ab</p>", "2: 1>1 2>2");
        due("<p>ab</p>", "<p y=\"D\"><x y=\"A\">cd</x></p>", "3: 1>1 2>2");
        PaperParcels x = Cases.both(LOOKS, "<p>ab</p>", "<p y=\"D\"><x y=\"A\">cd</x></p>");
        x.compare();
        x.apply(1);
        Check.due("a changed paragraph", Cases.shortForm(x, 2), "S P0/0,10,1 R1/0,10,0=ab");
        x.apply(2);
        Check.due("a changed run", Cases.shortForm(x, 2), "S P0/0,10,1 R1/1,10,1=cd");
        due("<l><i><p>a</p></i></l>", "<l><i><p y=\"A\">a</p></i></l>", "2: 3>3 4>4");
    }

    /** To put the first ones together costs 2 and m + 2, to take the first one out n + 2. */
    private static void togetherOrOut() {
        Check.says("Then, with i and j at the first ones of both rows, until both are at the end: if both are of the same"
                + " kind, and it costs the least of all to put them together, the steps for this pair come, and i and j go"
                + " on;");
        for (int m = 1; m < 4; m++) {
            for (int n = 1; n < 9; n++) {
                String first = "<p>" + "q".repeat(n) + "</p><p>" + "z".repeat(m) + "</p>";
                String second = "<p>" + "z".repeat(m) + "</p>";
                boolean together = m + 4 <= n + 2;
                due(first, second, together ? m + 4 + ": 2>2 3>-1" : n + 2 + ": 1>-1");
            }
        }
        due("<p/><p/>", "<p/>", "1: 2>-1");
        due("<p/>", "<p/><p/>", "1: -1>2");
        due("<p>a</p><p>a</p><p>a</p>", "<p>a</p><p>a</p>", "3: 5>-1");
        due("<p y=\"A\"/><p/>", "<p/>", "1: 1>-1");
        due("<p/><p y=\"A\"/>", "<p y=\"A\"/>", "1: 1>-1");
        due("<p y=\"A\"/><p y=\"B\"/>", "<p/>", "2: 1>1 2>-1");
        due("<l><i><p>a</p></i></l><p>b</p>", "<l><i><p>c</p></i></l><p>d</p>", "4: 4>4 6>6");
    }

    private static void togetherOrIn() {
        for (int m = 1; m < 4; m++) {
            for (int n = 1; n < 9; n++) {
                String first = "<p>" + "z".repeat(m) + "</p>";
                String second = "<p>" + "q".repeat(n) + "</p><p>" + "z".repeat(m) + "</p>";
                boolean together = m + 4 <= n + 2;
                due(first, second, together ? m + 4 + ": 2>2 -1>3" : n + 2 + ": -1>1");
            }
        }
        due("<p/>", "<p y=\"A\"/><p/>", "1: -1>1");
        due("<p/>", "<p y=\"A\"/><p y=\"B\"/>", "2: 1>1 -1>2");
    }

    /** A paragraph and a list that change places: the lighter one goes, and the paragraph of two alike. */
    private static void outOrIn() {
        Check.says("else, if it costs the least to take i out, a step that takes the OLD one out with all in it, and i"
                + " goes on;");
        String[] paragraphs = {"<p/>", "<p>a</p>", "<p>ab</p>", "<p>abc</p>", "<p>abcd</p>"};
        int[] weights = {1, 3, 4, 5, 6};
        String[] lists = {LIST, "<l><i><p/><p/></i></l>", "<l><i><p/><p/><p/></i></l>"};
        for (int p = 0; p < paragraphs.length; p++) {
            for (int l = 0; l < lists.length; l++) {
                int pNodes = p == 0 ? 1 : 2;
                int lNodes = 3 + l;
                boolean out = weights[p] <= 3 + l;
                String want = out ? 2 * weights[p] + ": 1>-1 -1>" + (1 + lNodes)
                        : 2 * (3 + l) + ": -1>1 " + (1 + pNodes) + ">-1";
                due(paragraphs[p] + lists[l], lists[l] + paragraphs[p], want);
                boolean listOut = 3 + l <= weights[p];
                String turned = listOut ? 2 * (3 + l) + ": 1>-1 -1>" + (1 + pNodes)
                        : 2 * weights[p] + ": -1>1 " + (1 + lNodes) + ">-1";
                due(lists[l] + paragraphs[p], paragraphs[p] + lists[l], turned);
            }
        }
        due("<p/>", LIST, "4: 1>-1 -1>1");
        due("<p/><p/>", LIST + LIST, "8: 1>-1 2>-1 -1>1 -1>4");
    }

    private static void ends() {
        Check.says("else a step that puts the NEW one in with all in it, and j goes on (least of all that can be done with"
                + " i, j and what is behind them).");
        due("", "<p>a</p>" + LIST + "<p/>", "7: -1>1 -1>3 -1>6");
        due("<p>a</p>", "<p>a</p>" + LIST, "3: -1>3");
        due("<p>abcdef</p>", LIST + "<p>abcdef</p>", "3: -1>1");
        due("<p>abcdef</p>", LIST + "<p>abcdef</p><p/>", "4: -1>1 -1>6");
        due("<p>a</p><p>b</p><p>cdefgh</p>", "<p>cdefgh</p><p>a</p>", "7: 2>2 3>-1 6>4");
        due("<p>a</p><p>cdefgh</p><p>b</p>", "<p>cdefgh</p><p>a</p><p>b</p>", "4: 2>2 4>4");
        due("<l><i><p/></i><i><p>abc</p></i></l>", "<l><i><p>abc</p></i><i><p/></i></l>", "4: 2>-1 -1>5");
    }

    private static void comparing() {
        Check.says("Finds the script from slot 0 to slot 1: the cost of their sheets.");
        PaperParcels x = Cases.both(LOOKS, "<p>a</p>", "<p>a</p><p>bcd</p>");
        Check.due("compare", x.compare() + ": " + Parcels.script(x), "5: -1>3");
        Check.due("once more", x.compare() + ": " + Parcels.script(x), "5: -1>3");
        Cases.readInto(x, 0, LOOKS, "<d><p>bcd</p></d>");
        Check.due("from another", x.compare() + ": " + Parcels.script(x), "3: -1>1");
        Cases.readInto(x, 1, LOOKS, "<d><p>bcd</p></d>");
        Check.due("from a like one", x.compare() + ": " + Parcels.script(x), "0: ");
        String form = Cases.shortForm(x, 0) + Cases.shortForm(x, 1) + Cases.shortForm(x, 2);
        x.compare();
        Check.due("the slots stay", Cases.shortForm(x, 0) + Cases.shortForm(x, 1) + Cases.shortForm(x, 2), form);
        String all = "<l>" + "<i><p>a</p></i>".repeat(12) + "<i><p/></i></l>";
        due(all, all, "0: ");
        due(all, "<p>b</p>".repeat(19) + "<p/>", 1 + 12 * 4 + 2 + 58 + ": 1>-1 " + ins(19, 2) + " -1>39");
        Check.says("IllegalStateException when one of them is empty.");
        for (int filled = 0; filled < 4; filled++) {
            PaperParcels y = new PaperParcels();
            for (int slot = 0; slot < 2; slot++) {
                if ((filled >> slot) % 2 == 1) {
                    Cases.readInto(y, slot, "", "<d/>");
                }
            }
            Check.dueCall("compare", () -> y.compare(), filled == 3 ? 0 : Parcels.ILLEGAL_STATE);
            Check.dueCall("a script after it", () -> y.apply(0), filled == 3 ? 1 : Parcels.ILLEGAL_STATE);
        }
    }

    private static String ins(int count, int width) {
        StringBuilder all = new StringBuilder();
        for (int i = 0; i < count; i++) {
            all.append(i == 0 ? "" : " ").append("-1>").append(1 + i * width);
        }
        return all.toString();
    }

    private static void countingSteps() {
        Check.says("How many steps the script has; 0 when there is none.");
        PaperParcels x = new PaperParcels();
        Check.due("none of a new object", x.steps(), 0);
        Cases.readInto(x, 0, "", "<d/>");
        Cases.readInto(x, 1, "", "<d>" + "<p/>".repeat(29) + "</d>");
        Check.due("none before compare", x.steps(), 0);
        x.compare();
        Check.due("twenty-nine", x.steps(), 29);
        int[] counts = {0, 1, 2, 28, 29};
        for (int count : counts) {
            PaperParcels y = Cases.both("", "", "<p/>".repeat(count));
            y.compare();
            Check.due("steps", y.steps(), count);
        }
        PaperParcels rows = Cases.both("", LIST.repeat(9), "<p/>".repeat(29));
        Check.due("compare", rows.compare() + " " + rows.steps(), "56 38");
        mostSteps();
        Check.says("(There is none any more when slot 0 or 1 was read into without a fault.)");
        for (int slot = 0; slot < 2; slot++) {
            PaperParcels y = Cases.both("", "<p>a</p>", "<p>b</p>");
            y.compare();
            Check.due("a fault", Parcels.read(y, slot, "S") + " " + y.steps() + " " + Parcels.script(y), "1:1 1 2>2");
            int wrong = 2 + slot;
            Check.dueCall("a read that throws", () -> y.read(wrong), Parcels.ILLEGAL_ARGUMENT);
            Check.due("steps after it", y.steps(), 1);
            y.apply(1);
            y.emit(1 - slot, 0);
            y.emit(slot, 0);
            Check.due("steps after apply and emit", y.steps(), 1);
            Check.due("a read of the same document", y.read(slot) + " " + y.steps(), "0 0");
            Check.dueCall("no step", () -> y.step(0, true), Parcels.OUT_OF_BOUNDS);
            Check.dueCall("no script", () -> y.apply(0), Parcels.ILLEGAL_STATE);
            Check.due("compare again", y.compare() + " " + y.steps(), "2 1");
        }
    }

    /** Of 29 paragraphs one becomes that with 38 runs: 1 + 38 + 28 steps, the most that were found. */
    private static void mostSteps() {
        String many = "<p y=\"B\"/>".repeat(29);
        String full = "<p>" + "a<x y=\"A\">b</x>".repeat(19) + "</p>";
        PaperParcels x = Cases.both(LOOKS, many, full);
        Check.due("compare", x.compare() + " " + x.steps(), 1 + 2 * 38 + 28 + " 67");
        Check.due("the first and the second step", x.step(0, false) + " " + x.step(1, true), "1 2");
        Check.due("the last step", x.step(66, false) + " " + x.step(66, true), "29 -1");
        Check.dueCall("none behind it", () -> x.step(67, false), Parcels.OUT_OF_BOUNDS);
        Check.due("all steps", x.apply(67) + Cases.shortForm(x, 2), 40 + Cases.shortForm(x, 1));
        PaperParcels turned = Cases.both(LOOKS, full, many);
        Check.due("compare", turned.compare() + " " + turned.steps(), "105 67");
        Check.due("the last step", turned.step(66, false) + " " + turned.step(66, true), "-1 29");
        Check.due("all steps", turned.apply(67) + Cases.shortForm(turned, 2), 30 + Cases.shortForm(turned, 1));
    }

    private static void askingSteps() {
        Check.says("The old node (fresh = false) or the new one of step k of the script; NONE when it has no such one.");
        PaperParcels x = Cases.both(LOOKS, "<p y=\"A\">ab</p>" + LIST, "<p>abc</p><p/>");
        x.compare();
        int[] olds = {1, 2, 3, -1};
        int[] news = {1, 2, -1, 3};
        for (int k = 0; k < 4; k++) {
            Check.due("old of " + k, x.step(k, false), olds[k]);
            Check.due("new of " + k, x.step(k, true), news[k]);
        }
        Check.says("IndexOutOfBoundsException when there is no such step.");
        int[] wrong = {Integer.MIN_VALUE, -2, -1, 4, 5, 79, 80, 81, Integer.MAX_VALUE};
        PaperParcels none = new PaperParcels();
        PaperParcels like = Cases.both("", "<p/>", "<p/>");
        like.compare();
        for (int k : wrong) {
            Check.dueCall("old of " + k, () -> x.step(k, false), Parcels.OUT_OF_BOUNDS);
            Check.dueCall("new of " + k, () -> x.step(k, true), Parcels.OUT_OF_BOUNDS);
        }
        for (int k = -1; k < 2; k++) {
            int step = k;
            Check.dueCall("a step of no script", () -> none.step(step, true), Parcels.OUT_OF_BOUNDS);
            Check.dueCall("a step of an empty script", () -> like.step(step, false), Parcels.OUT_OF_BOUNDS);
        }
    }
}
