/** The sentences of the plain form, the fault 7, and those of the promises 8 to 13. */
final class PlainFormBoundaries {
    private static final String PARAGRAPH = "P0/0,10,0";

    private PlainFormBoundaries() {
    }

    static void run() {
        numbering();
        kindsOfNodes();
        looksOfParagraphs();
        looksOfLetters();
        runsOfLetters();
        mostNodes();
        tooManyNodes();
        askNodes();
        askKinds();
        askAbove();
        askLooks();
        askLetterCounts();
        askLetters();
    }

    private static void numbering() {
        Check.says("THE PLAIN FORM of a document has NODES, numbered 0, 1, .. so that a node comes before those in it,"
                + " and these in their order, each with all that is in it.");
        Cases.plainForm("", "<d/>", "S");
        Cases.plainForm("", "<d></d>", "S");
        Cases.plainForm("", "<d><p/></d>", "S P0/0,10,0");
        Cases.plainForm("", "<d><p/><p/></d>", "S P0/0,10,0 P0/0,10,0");
        Cases.plainForm("", "<d><p>a</p><p>b</p></d>", "S P0/0,10,0 R1/0,10,0=a P0/0,10,0 R3/0,10,0=b");
        Cases.plainForm("", "<d><l><i><p>a</p><p/></i><i><p/></i></l><p/></d>",
                "S L0 I1 P2/0,10,0 R3/0,10,0=a P2/0,10,0 I1 P6/0,10,0 P0/0,10,0");
        Cases.plainForm("", "<d><l><i><l><i><l><i><p>a</p></i></l></i></l></i></l><p/></d>",
                "S L0 I1 L2 I3 L4 I5 P6/0,10,0 R7/0,10,0=a P0/0,10,0");
    }

    private static void kindsOfNodes() {
        Check.says("Node 0 is the SHEET (for d); in it are PARAGRAPHS (p) and LISTS (l), in a list ITEMS (i), in an item"
                + " paragraphs and lists, in a paragraph RUNS.");
        PaperParcels x = Cases.with("", "<d><l><i><p>a</p><l><i><p/></i></l></i></l><p>b</p></d>");
        int[] kinds = {PaperParcels.SHEET, PaperParcels.LIST, PaperParcels.ITEM, PaperParcels.PARAGRAPH,
            PaperParcels.RUN, PaperParcels.LIST, PaperParcels.ITEM, PaperParcels.PARAGRAPH, PaperParcels.PARAGRAPH,
            PaperParcels.RUN};
        int[] aboves = {-1, 0, 1, 2, 3, 2, 5, 6, 0, 8};
        Check.due("nodes", x.nodes(0), kinds.length);
        for (int node = 0; node < kinds.length; node++) {
            Check.due("kind of " + node, x.kind(0, node), kinds[node]);
            Check.due("above " + node, x.above(0, node), aboves[node]);
        }
    }

    private static void looksOfParagraphs() {
        Check.says("A paragraph has a LOOK: three numbers b, z, k: those that its style gives, otherwise 0, 10, 0 (also"
                + " without y).");
        Cases.plainForm("<s n=\"A\" b=\"1\" z=\"99\" k=\"9\"/>", "<d><p/></d>", "S P0/0,10,0");
        for (int given = 0; given < 8; given++) {
            String style = "<s n=\"A\"" + (given % 2 > 0 ? " b=\"1\"" : "") + (given / 2 % 2 > 0 ? " z=\"1\"" : "")
                    + (given / 4 > 0 ? " k=\"9\"" : "") + "/>";
            String look = given % 2 + "," + (given / 2 % 2 > 0 ? 1 : 10) + "," + (given / 4 > 0 ? 9 : 0);
            Cases.plainForm(style, "<d><p y=\"A\"/></d>", "S P0/" + look);
            Cases.plainForm(style, "<d><l><i><p y=\"A\"/><p/></i></l></d>", "S L0 I1 P2/" + look + " P2/0,10,0");
            Cases.plainForm(style, "<d><p>a<x y=\"A\">b</x></p></d>", given == 0 ? "S P0/0,10,0 R1/0,10,0=ab"
                    : "S P0/0,10,0 R1/0,10,0=a R1/" + look + "=b");
        }
        Cases.plainForm("<s n=\"A\" b=\"0\" z=\"10\" k=\"0\"/>", "<d><p y=\"A\"/></d>", "S P0/0,10,0");
    }

    private static void looksOfLetters() {
        Check.says("A letter in p has the paragraph's look; one in x has the numbers that the style of x gives, otherwise"
                + " what a letter of the element around x would have.");
        String styles = "<s n=\"A\" b=\"1\"/><s n=\"B\" z=\"9\"/><s n=\"C\" k=\"1\"/><s n=\"D\" b=\"0\" z=\"10\" k=\"0\"/>"
                + "<s n=\"E\"/>";
        Cases.plainForm(styles, "<d><p y=\"A\">a</p></d>", "S P0/1,10,0 R1/1,10,0=a");
        Cases.plainForm(styles, "<d><p y=\"A\"><x>a</x></p></d>", "S P0/1,10,0 R1/1,10,0=a");
        Cases.plainForm(styles, "<d><p y=\"A\"><x y=\"E\">a</x></p></d>", "S P0/1,10,0 R1/1,10,0=a");
        Cases.plainForm(styles, "<d><p y=\"A\"><x y=\"B\">a</x></p></d>", "S P0/1,10,0 R1/1,9,0=a");
        Cases.plainForm(styles, "<d><p y=\"A\"><x y=\"D\">a</x></p></d>", "S P0/1,10,0 R1/0,10,0=a");
        Cases.plainForm(styles, "<d><p y=\"A\"><x y=\"B\"><x y=\"C\">a</x>b</x>c</p></d>",
                "S P0/1,10,0 R1/1,9,1=a R1/1,9,0=b R1/1,10,0=c");
        Cases.plainForm(styles, "<d><p y=\"C\"><x y=\"A\"><x><x y=\"E\"><x y=\"B\"><x>a</x></x></x></x></x></p></d>",
                "S P0/0,10,1 R1/1,9,1=a");
        Cases.plainForm(styles, "<d><p y=\"A\">a</p><p>b</p></d>", "S P0/1,10,0 R1/1,10,0=a P0/0,10,0 R3/0,10,0=b");
    }

    private static void runsOfLetters() {
        Check.says("The letters of a paragraph, in their order, make runs: each has as many letters in a row with the"
                + " same look as there are; its look is theirs.");
        Cases.plainForm("", "<d><p></p></d>", "S P0/0,10,0");
        Cases.plainForm("", "<d><p><x/><x></x></p></d>", "S P0/0,10,0");
        Cases.plainForm("", "<d><p>a</p></d>", "S P0/0,10,0 R1/0,10,0=a");
        Cases.plainForm("", "<d><p> </p></d>", "S P0/0,10,0 R1/0,10,0= ");
        Cases.plainForm("", "<d><p>a<x>b</x><x/>c<x><x>d</x></x></p></d>", "S P0/0,10,0 R1/0,10,0=abcd");
        String[] others = {"b=\"1\"", "z=\"9\"", "z=\"11\"", "k=\"1\""};
        String[] looks = {"1,10,0", "0,9,0", "0,11,0", "0,10,1"};
        for (int i = 0; i < others.length; i++) {
            String style = "<s n=\"A\" " + others[i] + "/><s n=\"B\" f=\"A\"/>";
            String run = "R1/" + looks[i] + "=";
            Cases.plainForm(style, "<d><p><x y=\"A\">a</x></p></d>", "S P0/0,10,0 " + run + "a");
            Cases.plainForm(style, "<d><p>a<x y=\"A\">b</x>c</p></d>",
                    "S P0/0,10,0 R1/0,10,0=a " + run + "b R1/0,10,0=c");
            Cases.plainForm(style, "<d><p>a<x y=\"A\"/>c</p></d>", "S P0/0,10,0 R1/0,10,0=ac");
            Cases.plainForm(style, "<d><p><x y=\"A\">a</x><x y=\"B\">b<x>c</x></x><x/><x y=\"A\">d</x></p></d>",
                    "S P0/0,10,0 " + run + "abcd");
        }
        Cases.plainForm("", "<d><p>a</p><p/><p>a</p></d>",
                "S P0/0,10,0 R1/0,10,0=a P0/0,10,0 P0/0,10,0 R4/0,10,0=a");
        String most = "q".repeat(286);
        Cases.plainForm("", "<d><p>" + most + "</p></d>", "S P0/0,10,0 R1/0,10,0=" + most);
        Cases.plainForm("<s n=\"A\" z=\"1\" k=\"9\"/><s n=\"B\" z=\"2\"/><s n=\"C\" b=\"1\"/>",
                "<d><p y=\"A\">a<x y=\"B\">b</x><x y=\"C\">c</x></p></d>",
                "S P0/0,1,9 R1/0,1,9=a R1/0,2,9=b R1/1,1,9=c");
    }

    private static String rows(int nodes) {
        return "<d>" + "<p>a</p>".repeat((nodes - 1) / 2) + (nodes % 2 == 0 ? "<p/>" : "") + "</d>";
    }

    private static String runs(int nodes) {
        return "<d><p>" + "a<x y=\"A\">b</x>".repeat((nodes - 2) / 2) + (nodes % 2 == 0 ? "" : "a") + "</p></d>";
    }

    private static void mostNodes() {
        Check.says("There are at most 40 nodes.");
        for (int nodes = 37; nodes < 45; nodes++) {
            Cases.text(Parcels.plain("<t/>", rows(nodes)), nodes > 40 ? "7:0" : "0:-1");
            Cases.styled(Cases.STYLE, runs(Math.min(nodes, 41)), nodes > 40 ? "7:0" : "0:-1");
            if (nodes <= 40) {
                PaperParcels x = Cases.with("", rows(nodes));
                Check.due("nodes", x.nodes(0), nodes);
                Check.due("the last node", x.kind(0, nodes - 1), nodes % 2 == 0 ? 1 : 2);
                PaperParcels y = Cases.with(Cases.STYLE, runs(nodes));
                Check.due("nodes", y.nodes(0), nodes);
                Check.due("the last letter", y.letter(0, nodes - 1, 0), nodes % 2 == 0 ? 98 : 97);
            }
        }
        Cases.styled("<s n=\"A\" b=\"0\"/>", runs(41), "0:-1");
        Cases.body("<d><l>" + "<i><p>a</p></i>".repeat(12) + "<i><p/></i></l></d>", "0:-1");
        Cases.body("<d><l>" + "<i><p>a</p></i>".repeat(12) + "<i><p>a</p></i></l></d>", "7:0");
    }

    private static void tooManyNodes() {
        Check.says("7: there are more than 40 nodes: at place 0.");
        Cases.body("<d>" + "<p>a</p>".repeat(20) + "</d>", "7:0");
        Cases.body("<d>" + "<p>a</p>".repeat(29) + "</d>", "7:0");
        Cases.body("<d>" + "<p/>".repeat(5) + "<p>a</p>".repeat(17) + "</d>", "0:-1");
        Cases.body("<d>" + "<p/>".repeat(6) + "<p>a</p>".repeat(17) + "</d>", "7:0");
        Cases.body("<d><p/>" + "<p>a</p>".repeat(19) + "</d>", "0:-1");
        PaperParcels x = Cases.with("", "<d><p>a</p></d>");
        Check.due("too many nodes", Parcels.read(x, 0, Parcels.plain("<t/>", rows(41))), "7:0");
        Check.due("the slot stays", Cases.shortForm(x, 0), "S " + PARAGRAPH + " R1/0,10,0=a");
        Check.due("just as many as fit", Parcels.read(x, 0, Parcels.plain("<t/>", rows(40))), "0:-1");
        Check.due("nodes", x.nodes(0), 40);
    }

    private static void askNodes() {
        Check.says("How many nodes the document in a slot has; 0 when it is empty.");
        PaperParcels x = new PaperParcels();
        for (int slot = 0; slot < 3; slot++) {
            Check.due("nodes of an empty slot", x.nodes(slot), 0);
        }
        Cases.readInto(x, 1, "", "<d/>");
        Check.due("nodes of all slots", x.nodes(0) + " " + x.nodes(1) + " " + x.nodes(2), "0 1 0");
        Cases.readInto(x, 0, "", "<d><p>a</p></d>");
        Check.due("nodes of all slots", x.nodes(0) + " " + x.nodes(1) + " " + x.nodes(2), "3 1 0");
        x.compare();
        x.apply(1);
        Check.due("nodes of all slots", x.nodes(0) + " " + x.nodes(1) + " " + x.nodes(2), "3 1 1");
        Check.dueCall("nodes(-1)", () -> x.nodes(-1), Parcels.ILLEGAL_ARGUMENT);
        Check.dueCall("nodes(3)", () -> x.nodes(3), Parcels.ILLEGAL_ARGUMENT);
    }

    private static final int[] NODES = {Integer.MIN_VALUE, -40, -2, -1, 0, 1, 2, 3, 4, 39, 40, 79, 80, Integer.MAX_VALUE};

    /** The three nodes of this document have the numbers 0 to 2. */
    private static PaperParcels three() {
        PaperParcels x = Cases.with(Cases.STYLE, "<d><p>a<x/>b</p></d>");
        Cases.readInto(x, 1, Cases.STYLE, "<d><p>a<x/>b</p></d>");
        x.compare();
        x.apply(0);
        return x;
    }

    private static void askKinds() {
        Check.says("The kind of a node. IndexOutOfBoundsException when there is none such, so for the next four.");
        PaperParcels x = three();
        PaperParcels empty = new PaperParcels();
        for (int s = 0; s < 3; s++) {
            int slot = s;
            for (int node : NODES) {
                boolean is = node >= 0 && node < 3;
                String none = Parcels.OUT_OF_BOUNDS;
                Check.dueCall("kind of " + node, () -> x.kind(slot, node), is ? node : none);
                Check.dueCall("above " + node, () -> x.above(slot, node), is ? node - 1 : none);
                Check.dueCall("letters of " + node, () -> x.letters(slot, node), is ? node == 2 ? 2 : 0 : none);
                Check.dueCall("letter of " + node, () -> x.letter(slot, node, 1), is ? node == 2 ? 98 : -1 : none);
                for (int w = 0; w < 3; w++) {
                    int what = w;
                    int look = node == 0 ? -1 : what == 1 ? 10 : 0;
                    Check.dueCall("look of " + node, () -> x.look(slot, node, what), is ? look : none);
                    Check.dueCall("look in an empty slot", () -> empty.look(slot, node, what), none);
                }
                Check.dueCall("kind in an empty slot", () -> empty.kind(slot, node), none);
                Check.dueCall("above in an empty slot", () -> empty.above(slot, node), none);
                Check.dueCall("letters in an empty slot", () -> empty.letters(slot, node), none);
                Check.dueCall("letter in an empty slot", () -> empty.letter(slot, node, 0), none);
            }
        }
    }

    private static void askAbove() {
        Check.says("The node in which a node is; NONE for the sheet.");
        PaperParcels x = Cases.with("", "<d><l><i><p>a</p></i><i><p/></i></l><p>b</p></d>");
        int[] aboves = {PaperParcels.NONE, 0, 1, 2, 3, 1, 5, 0, 7};
        for (int node = 0; node < aboves.length; node++) {
            Check.due("above " + node, x.above(0, node), aboves[node]);
        }
        PaperParcels full = Cases.with("", rows(40));
        for (int node = 1; node < 40; node++) {
            Check.due("above " + node + " of forty", full.above(0, node), node % 2 == 0 ? node - 1 : 0);
        }
    }

    private static void askLooks() {
        Check.says("Of a node's look b (what = 0), z (1) or k (2); NONE for a node without one.");
        PaperParcels x = Cases.with("<s n=\"A\" b=\"1\" z=\"99\" k=\"9\"/><s n=\"B\" z=\"1\"/>",
                "<d><p y=\"A\">a</p><l><i><p y=\"B\"/></i></l></d>");
        int[][] looks = {{-1, -1, -1}, {1, 99, 9}, {1, 99, 9}, {-1, -1, -1}, {-1, -1, -1}, {0, 1, 0}};
        for (int node = 0; node < looks.length; node++) {
            for (int what = 0; what < 3; what++) {
                Check.due("look " + what + " of " + node, x.look(0, node, what), looks[node][what]);
            }
        }
        Check.says("IllegalArgumentException also when what is none of these.");
        int[] wrong = {Integer.MIN_VALUE, -2, -1, 3, 4, Integer.MAX_VALUE};
        for (int what : wrong) {
            for (int node = -1; node < 8; node++) {
                int n = node;
                Check.dueCall("look " + what + " of " + n, () -> x.look(0, n, what), Parcels.ILLEGAL_ARGUMENT);
            }
            Check.dueCall("look in an empty slot", () -> x.look(2, 0, what), Parcels.ILLEGAL_ARGUMENT);
            Check.dueCall("look in no slot", () -> x.look(3, 0, what), Parcels.ILLEGAL_ARGUMENT);
        }
    }

    private static void askLetterCounts() {
        Check.says("How many letters a run has; 0 for other nodes.");
        for (int size = 1; size < 287; size += size == 3 ? 281 : 1) {
            PaperParcels x = Cases.with("", "<d><p>" + "q".repeat(size) + "</p></d>");
            Check.due("letters", x.letters(0, 0) + " " + x.letters(0, 1) + " " + x.letters(0, 2), "0 0 " + size);
        }
        PaperParcels y = Cases.with(Cases.STYLE, "<d><p>abc<x y=\"A\">de</x>f</p><l><i><p>g</p></i></l></d>");
        int[] counts = {0, 0, 3, 2, 1, 0, 0, 0, 1};
        for (int node = 0; node < counts.length; node++) {
            Check.due("letters of " + node, y.letters(0, node), counts[node]);
        }
    }

    private static void askLetters() {
        Check.says("Letter i (from 0) of a run; NONE when there is none.");
        PaperParcels x = Cases.with(Cases.STYLE, "<d><p>a<x y=\"A\">bc</x>d</p><p>e</p></d>");
        String[] letters = {"", "", "a", "bc", "d", "", "e"};
        int[] places = {Integer.MIN_VALUE, -2, -1, 0, 1, 2, 3, 299, 300, Integer.MAX_VALUE};
        for (int node = 0; node < letters.length; node++) {
            for (int i : places) {
                int want = i >= 0 && i < letters[node].length() ? letters[node].charAt(i) : PaperParcels.NONE;
                Check.due("letter " + i + " of " + node, x.letter(0, node, i), want);
            }
        }
        PaperParcels full = Cases.with("", "<d><p>r" + "q".repeat(284) + "s</p></d>");
        int[] wants = {-1, 'r', 'q', 'q', 's', -1};
        int[] ends = {-1, 0, 1, 284, 285, 286};
        for (int i = 0; i < ends.length; i++) {
            Check.due("letter " + ends[i] + " of 286", full.letter(0, 2, ends[i]), wants[i]);
        }
        for (char sign = 32; sign < 127; sign++) {
            if ("<>&~".indexOf(sign) < 0) {
                Check.due("letter", Cases.with("", "<d><p>" + sign + "</p></d>").letter(0, 2, 0), (int) sign);
            }
        }
    }
}
