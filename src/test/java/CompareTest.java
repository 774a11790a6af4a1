/** Promises 14 to 16: compare, steps and step. */
public final class CompareTest {
    private static final String STYLES = "<t><s n=\"A\" b=\"1\"/></t>";

    public static void main(String[] args) {
        costs();
        firstChoices();
        whenThereIsNone();
        Check.finish("CompareTest");
    }

    private static PaperParcels both(String first, String second) {
        PaperParcels x = new PaperParcels();
        Check.due("read of " + first, Parcels.read(x, 0, Parcels.plain(STYLES, first)), "0:-1");
        Check.due("read of " + second, Parcels.read(x, 1, Parcels.plain(STYLES, second)), "0:-1");
        return x;
    }

    private static void due(String first, String second, int cost, String script) {
        PaperParcels x = both("<d>" + first + "</d>", "<d>" + second + "</d>");
        Check.due("cost from " + first + " to " + second, x.compare(), cost);
        Check.due("script from " + first + " to " + second, Parcels.script(x), script);
        Check.due("again", x.compare() + " " + Parcels.script(x), cost + " " + script);
    }

    private static void costs() {
        due("", "", 0, "");
        due("<p>ab</p>", "<p>ab</p>", 0, "");
        due("<p>ab</p>", "<p y=\"A\"><x>ab</x></p>", 2, "1>1 2>2");
        due("<p>ab</p>", "<p>abc</p>", 2, "2>2");
        due("<p>ab</p>", "<p><x y=\"A\">ab</x></p>", 1, "2>2");
        due("<p>ab</p>", "<p><x y=\"A\">abc</x></p>", 2, "2>2");
        due("<p/>", "<p y=\"A\"/>", 1, "1>1");
        due("<p>abc</p>", "", 5, "1>-1");
        due("", "<p>abc</p>", 5, "-1>1");
        due("<l><i><p>a</p><p/></i></l>", "", 6, "1>-1");
        due("<l><i><p>a</p></i></l>", "<l><i><p>b</p></i><i><p/></i></l>", 4, "4>4 -1>5");
        due("<p>a</p>", "<l><i><p>a</p></i></l>", 8, "1>-1 -1>1");
        due("<p>aaaa</p>", "<p>a<x y=\"A\">b</x></p>", 4, "2>2 -1>3");
        due("<p>aaaa<x y=\"A\">b</x></p>", "<p><x y=\"A\">b</x></p>", 4, "2>2 3>-1");
        due("<p>aaa<x y=\"A\">b</x></p>", "<p><x y=\"A\">b</x></p>", 4, "2>2 3>-1");
        due("<p>a<x y=\"A\">b</x></p>", "<p><x y=\"A\">b</x></p>", 2, "2>-1");
        due("<l><i><l><i><l><i><p>a</p></i></l></i></l></i></l>", "<l><i><l><i><l><i><p>b</p></i></l></i></l></i></l>",
                2, "8>8");
    }

    private static void firstChoices() {
        due("<p/><p/>", "<p/>", 1, "2>-1");
        due("<p/>", "<p/><p/>", 1, "-1>2");
        due("<p>a</p><p>a</p><p>a</p>", "<p>a</p>", 6, "3>-1 5>-1");
        due("<p/>", "<l><i><p/></i></l>", 4, "1>-1 -1>1");
        due("<l><i><p/></i></l><p/>", "<p/><l><i><p/></i></l>", 2, "-1>1 4>-1");
        due("<p/><l><i><p/></i></l>", "<l><i><p/></i></l><p/>", 2, "1>-1 -1>4");
        due("<p>abcdef</p><l><i><p/></i></l>", "<l><i><p/></i></l><p>abcdef</p>", 6, "-1>1 3>-1");
        due("<p>ab</p><p>cdefgh</p>", "<p>cdefgh</p>", 4, "1>-1");
        due("<p>cdefgh</p>", "<p>ab</p><p>cdefgh</p>", 4, "-1>1");
        due("<p>a</p>", "<p>b</p><p>a</p>", 3, "-1>1");
        due("<p/>", "<p>b</p><p/>", 3, "-1>2 -1>3");
    }

    private static void whenThereIsNone() {
        PaperParcels x = new PaperParcels();
        Check.dueCall("compare of none", () -> x.compare(), Parcels.ILLEGAL_STATE);
        Parcels.read(x, 1, Parcels.plain("<t/>", "<d><p/></d>"));
        Check.dueCall("compare with slot 0 empty", () -> x.compare(), Parcels.ILLEGAL_STATE);
        Parcels.read(x, 0, Parcels.plain("<t/>", "<d/>"));
        Check.due("steps before compare", x.steps(), 0);
        Check.due("compare", x.compare(), 1);
        Check.due("steps", x.steps(), 1);
        int[] none = {-1, 1, 80, Integer.MIN_VALUE, Integer.MAX_VALUE};
        for (int k : none) {
            Check.dueCall("step " + k, () -> x.step(k, false), Parcels.OUT_OF_BOUNDS);
            Check.dueCall("step " + k, () -> x.step(k, true), Parcels.OUT_OF_BOUNDS);
        }
        Check.due("a read with a fault", Parcels.read(x, 0, "S"), "1:1");
        Check.due("steps after it", x.steps() + " " + Parcels.script(x), "1 -1>1");
        Check.dueCall("apply after it", () -> x.apply(1), 2);
        for (int slot = 0; slot < 2; slot++) {
            Check.due("a read without a fault", Parcels.read(x, slot, Parcels.plain("<t/>", "<d/>")), "0:-1");
            Check.due("steps after it", x.steps(), 0);
            Check.dueCall("step after it", () -> x.step(0, false), Parcels.OUT_OF_BOUNDS);
            Check.dueCall("apply after it", () -> x.apply(0), Parcels.ILLEGAL_STATE);
            Check.dueCall("compare after it", () -> x.compare(), 1 - slot);
        }
        Check.dueCall("a script without steps is one", () -> x.apply(0), 1);
        PaperParcels y = new PaperParcels();
        Parcels.read(y, 0, Parcels.plain("<t/>", "<d/>"));
        Check.dueCall("compare with slot 1 empty", () -> y.compare(), Parcels.ILLEGAL_STATE);
    }
}
