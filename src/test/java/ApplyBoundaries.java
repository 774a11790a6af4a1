/** Where a new one is put in, and the sentences of promise 17. */
final class ApplyBoundaries {
    private static final String LIST = "<l><i><p/></i></l>";

    private ApplyBoundaries() {
    }

    static void run() {
        placesInRows();
        placesInInnerRows();
        firstSteps();
        sameRunsSideBySide();
        mostNodes();
        noScript();
        noSuchSteps();
    }

    /** What is in the d of slot 2 after each number of steps, as emit writes it. */
    private static void due(String first, String second, String... bodies) {
        PaperParcels x = Cases.both(Cases.STYLE, first, second);
        x.compare();
        Check.due("steps from " + first + " to " + second, x.steps(), bodies.length - 1);
        for (int n = 0; n < bodies.length; n++) {
            int count = n;
            Check.dueCall("apply(" + n + ") of " + first, () -> x.apply(count) == x.nodes(2), true);
            x.emit(2, 0);
            String text = Parcels.text(x);
            String body = text.substring(text.indexOf("<d"), text.length() - 4);
            String want = bodies[n].isEmpty() ? "<d/>" : "<d>" + bodies[n] + "</d>";
            Check.due(first + " after " + n + " steps to " + second, body, want);
        }
        Check.due("all steps make slot 1", Parcels.describe(x, 2), Parcels.describe(x, 1));
    }

    private static void placesInRows() {
        Check.says("A new one is put in behind those of its row that were put together or put in before, and in front of"
                + " all others there are yet.");
        due("", "<p/>", "", "<p/>");
        due("", "<p>a</p>" + LIST + "<p>b</p>", "", "<p>a</p>", "<p>a</p>" + LIST, "<p>a</p>" + LIST + "<p>b</p>");
        due("<p>old</p>", LIST + "<p>old</p>", "<p>old</p>", LIST + "<p>old</p>");
        due("<p>old</p>", "<p>old</p>" + LIST, "<p>old</p>", "<p>old</p>" + LIST);
        due("<p>old</p>", LIST + LIST + "<p>old</p>" + LIST,
                "<p>old</p>",
                LIST + "<p>old</p>",
                LIST + LIST + "<p>old</p>",
                LIST + LIST + "<p>old</p>" + LIST);
        due("<p>one</p><p>two</p>", "<p>one</p>" + LIST + "<p>two</p>",
                "<p>one</p><p>two</p>",
                "<p>one</p>" + LIST + "<p>two</p>");
        due(LIST + "<p/>", "<p/>" + LIST, LIST + "<p/>", "<p/>" + LIST + "<p/>", "<p/>" + LIST);
        due("<p/>" + LIST, LIST + "<p/>", "<p/>" + LIST, LIST, LIST + "<p/>");
        due("<p>a</p><p>b</p>", LIST + LIST,
                "<p>a</p><p>b</p>", "<p>b</p>", "", LIST, LIST + LIST);
        due(LIST + "<p>a</p>" + LIST, "<p>b</p>" + LIST + "<p>a</p>",
                LIST + "<p>a</p>" + LIST,
                "<p>b</p>" + LIST + "<p>a</p>" + LIST,
                "<p>b</p>" + LIST + "<p>a</p>");
    }

    private static void placesInInnerRows() {
        due("<l><i><p>a</p></i></l>", "<l><i>" + LIST + "<p>a</p>" + LIST + "</i></l>",
                "<l><i><p>a</p></i></l>",
                "<l><i>" + LIST + "<p>a</p></i></l>",
                "<l><i>" + LIST + "<p>a</p>" + LIST + "</i></l>");
        due("<l><i><p>a</p></i></l><p>z</p>", "<l><i><p>abc</p></i><i><p/></i></l>" + LIST + "<p>z</p>",
                "<l><i><p>a</p></i></l><p>z</p>",
                "<l><i><p>abc</p></i></l><p>z</p>",
                "<l><i><p>abc</p></i><i><p/></i></l><p>z</p>",
                "<l><i><p>abc</p></i><i><p/></i></l>" + LIST + "<p>z</p>");
        due("<l><i><p>a</p></i></l><p>z</p>", "<l><i><p>a</p></i><i><p/></i></l>",
                "<l><i><p>a</p></i></l><p>z</p>",
                "<l><i><p>a</p></i><i><p/></i></l><p>z</p>",
                "<l><i><p>a</p></i><i><p/></i></l>");
        due("<p/>", "<p>q</p>", "<p/>", "<p>q</p>");
        due("<p>abc</p>", "<p>d<x y=\"A\">abc</x></p>",
                "<p>abc</p>", "<p>dabc</p>", "<p>d<x y=\"A\">abc</x></p>");
        due("<l><i><p>a</p></i></l>", "<l><i>" + LIST + "</i></l>",
                "<l><i><p>a</p></i></l>", "<l><i/></l>", "<l><i>" + LIST + "</i></l>");
        due("<l><i><p/></i></l><p>z</p>", "<l><i><p/></i><i><p/></i></l><p/><p>z</p>",
                "<l><i><p/></i></l><p>z</p>",
                "<l><i><p/></i><i><p/></i></l><p>z</p>",
                "<l><i><p/></i><i><p/></i></l><p/><p>z</p>");
    }

    private static void firstSteps() {
        Check.says("Slot 2 becomes what comes of slot 0 by the first n steps of the script, numbered anew: how many nodes it"
                + " has.");
        due("<p>a</p>", "<p>a</p>", "<p>a</p>");
        due("<p>a</p>", "", "<p>a</p>", "");
        due("<p>a</p>" + LIST + "<p>b</p>", "", "<p>a</p>" + LIST + "<p>b</p>", LIST + "<p>b</p>", "<p>b</p>", "");
        due("<p y=\"A\">a</p>", "<p>b</p>", "<p y=\"A\">a</p>", "<p><x y=\"A\">a</x></p>", "<p>b</p>");
        PaperParcels x = Cases.both("", "<p>a</p>" + LIST + "<p>b</p>", "<p>q</p><p>b</p>");
        Check.due("compare", x.compare() + ": " + Parcels.script(x), "5: 2>2 3>-1");
        int[] turns = {0, 1, 2, 1, 0, 2};
        String[] forms = {"S P0/0,10,0 R1/0,10,0=a L0 I3 P4/0,10,0 P0/0,10,0 R6/0,10,0=b",
            "S P0/0,10,0 R1/0,10,0=q L0 I3 P4/0,10,0 P0/0,10,0 R6/0,10,0=b",
            "S P0/0,10,0 R1/0,10,0=q P0/0,10,0 R3/0,10,0=b"};
        int[] counts = {8, 8, 5};
        String others = Cases.shortForm(x, 0) + Cases.shortForm(x, 1) + Parcels.text(x) + Parcels.script(x);
        for (int n : turns) {
            Check.due("apply(" + n + ")", x.apply(n), counts[n]);
            Check.due("slot 2", Cases.shortForm(x, 2), forms[n]);
        }
        Check.due("all else stays", Cases.shortForm(x, 0) + Cases.shortForm(x, 1) + Parcels.text(x) + Parcels.script(x),
                others);
        Cases.readInto(x, 0, "", "<d/>");
        Check.due("slot 2 outlasts its script", Cases.shortForm(x, 2), forms[2]);
        x.compare();
        Check.due("and is there until the next apply", Cases.shortForm(x, 2), forms[2]);
        Check.due("apply(0)", x.apply(0) + Cases.shortForm(x, 2), "1S");
    }

    private static void sameRunsSideBySide() {
        Check.says("(It may have two runs with the same look side by side, and up to 80 nodes.)");
        PaperParcels y = Cases.both(Cases.STYLE, "<p>a<x y=\"A\">b</x>c</p>", "<p>ac</p>");
        Check.due("compare", y.compare() + ": " + Parcels.script(y), "6: 2>2 3>-1 4>-1");
        Check.due("apply(2)", y.apply(2), 4);
        Check.due("two runs", Cases.shortForm(y, 2), "S P0/0,10,0 R1/0,10,0=ac R1/0,10,0=c");
        Check.due("apply(3)", y.apply(3), 3);
        PaperParcels z = Cases.both(Cases.STYLE, "<p><x y=\"A\">a</x>b<x y=\"A\">c</x></p>", "<p><x y=\"A\">ac</x></p>");
        Check.due("compare", z.compare() + ": " + Parcels.script(z), "6: 2>2 3>-1 4>-1");
        z.apply(2);
        z.emit(2, 0);
        Check.due("each has an x of its own", Parcels.text(z).contains("<p><x y=\"A\">ac</x><x y=\"A\">c</x></p>"), true);
        Check.due("read, they are one", z.read(1) + Cases.shortForm(z, 1), "0S P0/0,10,0 R1/1,10,0=acc");
    }

    /** Something must be put together for new ones to come before old ones go, so 78 is the most. */
    private static void mostNodes() {
        String items = "<l>" + "<i><p>a</p></i>".repeat(11) + "<i><p>a</p><p/></i></l>";
        PaperParcels x = Cases.both(Cases.STYLE, "<p y=\"A\"/>" + items, "<p>b</p>".repeat(19) + "<p y=\"A\"/>");
        Check.due("nodes", x.nodes(0) + " " + x.nodes(1), "40 40");
        x.compare();
        for (int n = 0; n < 20; n++) {
            Check.due("apply(" + n + ")", x.apply(n), 40 + 2 * n);
            Check.due("the node behind those put in", x.look(2, 1 + 2 * n, 0), 1);
            Check.due("the last node", x.kind(2, 39 + 2 * n) + " " + x.above(2, 39 + 2 * n), "1 " + (36 + 2 * n));
            int none = 40 + 2 * n;
            Check.dueCall("none behind it", () -> x.kind(2, none), Parcels.OUT_OF_BOUNDS);
        }
        Check.due("apply(20)", x.apply(20), 40);
        Check.due("what came of it", Cases.shortForm(x, 2), Cases.shortForm(x, 1));
        String olds = "q".repeat(262);
        String news = "r".repeat(276);
        PaperParcels y = Cases.both(Cases.STYLE, "<p y=\"A\"/><l><i><p>" + olds + "</p></i></l>",
                "<p>" + news + "</p><p y=\"A\"/>");
        Check.due("compare", y.compare() + ": " + Parcels.script(y), 278 + 266 + ": -1>1 2>-1");
        Check.due("apply(1)", y.apply(1), 8);
        Check.due("the letters of both", Cases.shortForm(y, 2), "S P0/0,10,0 R1/0,10,0=" + news
                + " P0/1,10,0 L0 I4 P5/0,10,0 R6/0,10,0=" + olds);
        y.apply(2);
        Check.due("what came of it", Cases.shortForm(y, 2), Cases.shortForm(y, 1));
    }

    private static void noScript() {
        Check.says("IllegalStateException when there is no script, IllegalArgumentException when it has no n steps.");
        int[] counts = {Integer.MIN_VALUE, -1, 0, 1, 80, Integer.MAX_VALUE};
        PaperParcels x = new PaperParcels();
        PaperParcels one = Cases.with("", "<d/>");
        PaperParcels both = Cases.both("", "<p/>", "");
        PaperParcels later = Cases.both("", "<p/>", "");
        later.compare();
        later.read(0);
        for (int n : counts) {
            Check.dueCall("apply(" + n + ") of a new object", () -> x.apply(n), Parcels.ILLEGAL_STATE);
            Check.dueCall("apply(" + n + ") with one slot empty", () -> one.apply(n), Parcels.ILLEGAL_STATE);
            Check.dueCall("apply(" + n + ") before compare", () -> both.apply(n), Parcels.ILLEGAL_STATE);
            Check.dueCall("apply(" + n + ") after read", () -> later.apply(n), Parcels.ILLEGAL_STATE);
        }
    }

    private static void noSuchSteps() {
        for (int steps = 0; steps < 4; steps++) {
            PaperParcels x = Cases.both("", "", "<p/>".repeat(steps));
            x.compare();
            Check.due("steps", x.steps(), steps);
            int[] counts = {Integer.MIN_VALUE, -2, -1, 0, 1, 2, 3, 4, 5, 79, 80, 81, Integer.MAX_VALUE};
            for (int n : counts) {
                boolean has = n >= 0 && n <= steps;
                int before = x.nodes(2);
                Check.dueCall("apply(" + n + ") of " + steps, () -> x.apply(n), has ? 1 + n : Parcels.ILLEGAL_ARGUMENT);
                Check.due("nodes of slot 2", x.nodes(2), has ? 1 + n : before);
            }
        }
    }
}
