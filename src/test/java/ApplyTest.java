/** Promise 17: apply. */
public final class ApplyTest {
    private static final String STYLES = "<t><s n=\"A\" b=\"1\"/></t>";

    public static void main(String[] args) {
        stepByStep();
        putInPlace();
        sameRunsSideBySide();
        manyNodes();
        wrongInputs();
        Check.finish("ApplyTest");
    }

    private static PaperParcels both(String first, String second) {
        PaperParcels x = new PaperParcels();
        Check.due("read", Parcels.read(x, 0, Parcels.plain(STYLES, "<d>" + first + "</d>")), "0:-1");
        Check.due("read", Parcels.read(x, 1, Parcels.plain(STYLES, "<d>" + second + "</d>")), "0:-1");
        x.compare();
        return x;
    }

    /** The body of slot 2 after each number of steps, written by emit with method 0. */
    private static void due(String first, String second, String... bodies) {
        PaperParcels x = both(first, second);
        Check.due("steps from " + first + " to " + second, x.steps(), bodies.length - 1);
        String firstForm = Parcels.describe(x, 0);
        for (int n = 0; n < bodies.length && n <= x.steps(); n++) {
            x.apply(n);
            x.emit(2, 0);
            String text = Parcels.text(x);
            int from = text.indexOf("<d");
            Check.due(first + " after " + n + " steps", text.substring(from, text.length() - 4), bodies[n]);
        }
        Check.due("slot 0 stays", Parcels.describe(x, 0), firstForm);
        Check.due("all steps make slot 1", Parcels.describe(x, 2), Parcels.describe(x, 1));
    }

    private static void stepByStep() {
        due("<p>ab</p>", "<p>ab</p>", "<d><p>ab</p></d>");
        due("<p>ab</p><l><i><p>q</p></i></l>", "<p y=\"A\"><x>abc</x></p><p>n</p>",
                "<d><p>ab</p><l><i><p>q</p></i></l></d>",
                "<d><p y=\"A\"><x y=\"B\">ab</x></p><l><i><p>q</p></i></l></d>",
                "<d><p y=\"A\">abc</p><l><i><p>q</p></i></l></d>",
                "<d><p y=\"A\">abc</p></d>",
                "<d><p y=\"A\">abc</p><p>n</p></d>");
        due("<l><i><p>a</p></i></l>", "<l><i><l><i><p/></i></l></i></l>",
                "<d><l><i><p>a</p></i></l></d>",
                "<d><l><i/></l></d>",
                "<d><l><i><l><i><p/></i></l></i></l></d>");
        due("<p/><l><i><l><i><l><i><p>a</p></i></l></i></l></i></l>",
                "<p>q</p><l><i><l><i><l><i><p>b</p></i></l></i></l></i></l>",
                "<d><p/><l><i><l><i><l><i><p>a</p></i></l></i></l></i></l></d>",
                "<d><p>q</p><l><i><l><i><l><i><p>a</p></i></l></i></l></i></l></d>",
                "<d><p>q</p><l><i><l><i><l><i><p>b</p></i></l></i></l></i></l></d>");
        due("<p>abc</p><p>def</p>", "<p>abc</p><l><i><p>q</p></i><i><p/></i></l><l><i><p>r</p></i></l>",
                "<d><p>abc</p><p>def</p></d>",
                "<d><p>abc</p></d>",
                "<d><p>abc</p><l><i><p>q</p></i><i><p/></i></l></d>",
                "<d><p>abc</p><l><i><p>q</p></i><i><p/></i></l><l><i><p>r</p></i></l></d>");
        due("<p/><l><i><p>abcdefgh</p></i></l>", "<l><i><l><i><p>q</p></i></l></i><i><p>abcdefgh</p></i></l>",
                "<d><p/><l><i><p>abcdefgh</p></i></l></d>",
                "<d><l><i><p>abcdefgh</p></i></l></d>",
                "<d><l><i><l><i><p>q</p></i></l></i><i><p>abcdefgh</p></i></l></d>");
    }

    private static void putInPlace() {
        due("<l><i><p/></i></l><p/>", "<p/><l><i><p/></i></l>",
                "<d><l><i><p/></i></l><p/></d>",
                "<d><p/><l><i><p/></i></l><p/></d>",
                "<d><p/><l><i><p/></i></l></d>");
        due("<p>one</p><p>four</p>", "<p>one</p><p>two2</p><p>three</p><p>four</p><p>five</p>",
                "<d><p>one</p><p>four</p></d>",
                "<d><p>one</p><p>two2</p><p>four</p></d>",
                "<d><p>one</p><p>two2</p><p>three</p><p>four</p></d>",
                "<d><p>one</p><p>two2</p><p>three</p><p>four</p><p>five</p></d>");
        due("<l><i><p>a</p></i></l>", "<l><i><p>z</p></i><i><p>a</p></i><i><p>b</p></i></l><p/>",
                "<d><l><i><p>a</p></i></l></d>",
                "<d><l><i><p>z</p></i><i><p>a</p></i></l></d>",
                "<d><l><i><p>z</p></i><i><p>a</p></i><i><p>b</p></i></l></d>",
                "<d><l><i><p>z</p></i><i><p>a</p></i><i><p>b</p></i></l><p/></d>");
    }

    private static void sameRunsSideBySide() {
        PaperParcels x = both("<p>a<x y=\"A\">b</x>c</p>", "<p>ac</p>");
        Check.due("compare", x.compare(), 6);
        Check.due("script", Parcels.script(x), "2>2 3>-1 4>-1");
        Check.due("after two steps", x.apply(2), 4);
        Check.due("two runs with one look", Parcels.describe(x, 2),
                "0 S in -1 look -1 -1 -1 letters 0 ''\n"
                + "1 P in 0 look 0 10 0 letters 0 ''\n"
                + "2 R in 1 look 0 10 0 letters 2 'ac'\n"
                + "3 R in 1 look 0 10 0 letters 1 'c'\n");
        x.emit(2, 0);
        Check.due("read as one run", x.read(1) + " " + x.letters(1, 2), "0 3");
        Check.due("slot 2 outlasts the script", x.nodes(2), 4);
    }

    private static void manyNodes() {
        String items = "<l>" + "<i><p>a</p></i>".repeat(11) + "<i><p>a</p><p/></i></l>";
        PaperParcels x = both("<p y=\"A\"/>" + items, "<p>b</p>".repeat(19) + "<p y=\"A\"/>");
        Check.due("nodes", x.nodes(0) + " " + x.nodes(1), "40 40");
        Check.due("compare", x.compare(), 19 * 3 + 1 + 11 * 4 + 5);
        Check.due("steps", x.steps(), 20);
        Check.due("all new ones beside all old ones", x.apply(19), 78);
        Check.due("a node of them", x.kind(2, 77) + " " + x.above(2, 77) + " " + x.above(2, 39), "1 74 0");
        Check.dueCall("no node behind them", () -> x.kind(2, 78), Parcels.OUT_OF_BOUNDS);
        Check.due("all steps", x.apply(20), 40);
        Check.due("first form", x.apply(0) + Parcels.describe(x, 2), 40 + Parcels.describe(x, 0));
    }

    private static void wrongInputs() {
        PaperParcels x = new PaperParcels();
        Check.dueCall("apply(0) without a script", () -> x.apply(0), Parcels.ILLEGAL_STATE);
        Check.dueCall("apply(-1) without a script", () -> x.apply(-1), Parcels.ILLEGAL_STATE);
        PaperParcels y = both("<p>a</p>", "<p>b</p><p>c</p>");
        Check.due("apply", y.apply(1), 3);
        String before = Parcels.state(y);
        int[] wrong = {-1, y.steps() + 1, Integer.MIN_VALUE, Integer.MAX_VALUE};
        for (int n : wrong) {
            Check.dueCall("apply(" + n + ")", () -> y.apply(n), Parcels.ILLEGAL_ARGUMENT);
            Check.due("what apply(" + n + ") left", Parcels.state(y), before);
        }
    }
}
