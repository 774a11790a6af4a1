/** Promises 8 to 13: the plain form, by nodes, kind, above, look, letters and letter. */
public final class PlainFormTest {
    public static void main(String[] args) {
        numbers();
        looks();
        runs();
        manyReads();
        wrongInputs();
        Check.finish("PlainFormTest");
    }

    private static PaperParcels with(String styles, String content) {
        PaperParcels x = new PaperParcels();
        String text = Parcels.plain(styles.isEmpty() ? "<t/>" : "<t>" + styles + "</t>", content);
        Check.due("read of " + text, Parcels.read(x, 0, text), "0:-1");
        return x;
    }

    private static void due(String styles, String content, String want) {
        Check.due("plain form of " + content, Parcels.describe(with(styles, content), 0), want);
    }

    private static void numbers() {
        due("", "<d/>", "0 S in -1 look -1 -1 -1 letters 0 ''\n");
        due("", "<d><p/><l><i><l><i><p>a</p></i></l><p/></i><i><p/></i></l><p>b</p></d>",
                "0 S in -1 look -1 -1 -1 letters 0 ''\n"
                + "1 P in 0 look 0 10 0 letters 0 ''\n"
                + "2 L in 0 look -1 -1 -1 letters 0 ''\n"
                + "3 I in 2 look -1 -1 -1 letters 0 ''\n"
                + "4 L in 3 look -1 -1 -1 letters 0 ''\n"
                + "5 I in 4 look -1 -1 -1 letters 0 ''\n"
                + "6 P in 5 look 0 10 0 letters 0 ''\n"
                + "7 R in 6 look 0 10 0 letters 1 'a'\n"
                + "8 P in 3 look 0 10 0 letters 0 ''\n"
                + "9 I in 2 look -1 -1 -1 letters 0 ''\n"
                + "10 P in 9 look 0 10 0 letters 0 ''\n"
                + "11 P in 0 look 0 10 0 letters 0 ''\n"
                + "12 R in 11 look 0 10 0 letters 1 'b'\n");
    }

    private static void looks() {
        String styles = "<s n=\"A\" f=\"B\" b=\"1\"/><s n=\"B\" f=\"C\" b=\"0\" z=\"7\"/><s n=\"C\" z=\"99\" k=\"9\"/>"
                + "<s n=\"D\" b=\"0\"/><s n=\"E\"/>";
        due(styles, "<d><p y=\"A\">1<x>2</x><x y=\"D\">3<x y=\"C\">4</x></x><x y=\"E\">5</x></p><p y=\"D\"/>"
                + "<p><x y=\"A\"><x y=\"D\">6</x></x></p></d>",
                "0 S in -1 look -1 -1 -1 letters 0 ''\n"
                + "1 P in 0 look 1 7 9 letters 0 ''\n"
                + "2 R in 1 look 1 7 9 letters 2 '12'\n"
                + "3 R in 1 look 0 7 9 letters 1 '3'\n"
                + "4 R in 1 look 0 99 9 letters 1 '4'\n"
                + "5 R in 1 look 1 7 9 letters 1 '5'\n"
                + "6 P in 0 look 0 10 0 letters 0 ''\n"
                + "7 P in 0 look 0 10 0 letters 0 ''\n"
                + "8 R in 7 look 0 7 9 letters 1 '6'\n");
    }

    private static void runs() {
        String styles = "<s n=\"A\" b=\"1\"/><s n=\"B\" b=\"1\" z=\"10\"/>";
        due(styles, "<d><p>a<x y=\"A\">b</x><x y=\"B\">c</x><x y=\"A\"/>d<x></x>e</p><p>f /=\"</p></d>",
                "0 S in -1 look -1 -1 -1 letters 0 ''\n"
                + "1 P in 0 look 0 10 0 letters 0 ''\n"
                + "2 R in 1 look 0 10 0 letters 1 'a'\n"
                + "3 R in 1 look 1 10 0 letters 2 'bc'\n"
                + "4 R in 1 look 0 10 0 letters 2 'de'\n"
                + "5 P in 0 look 0 10 0 letters 0 ''\n"
                + "6 R in 5 look 0 10 0 letters 5 'f /=\"'\n");
    }

    private static void manyReads() {
        PaperParcels x = new PaperParcels();
        for (int turn = 0; turn < 6; turn++) {
            String letters = String.valueOf((char) ('a' + turn)).repeat(286 - turn);
            Check.due("read", Parcels.read(x, turn % 2, Parcels.plain("<t/>", "<d><p>" + letters + "</p></d>")), "0:-1");
            Check.due("letters", x.letters(turn % 2, 2), 286 - turn);
            Check.due("last letter", x.letter(turn % 2, 2, 285 - turn), 'a' + turn);
            if (turn > 0) {
                Check.due("compare", x.compare(), 2);
                Check.due("apply", x.apply(1) + " " + x.letters(2, 2), "3 " + x.letters(1, 2));
            }
        }
    }

    private static void wrongInputs() {
        PaperParcels x = with("", "<d><p>ab</p></d>");
        int[] slots = {-1, 3, Integer.MIN_VALUE, Integer.MAX_VALUE};
        for (int slot : slots) {
            Check.dueCall("nodes", () -> x.nodes(slot), Parcels.ILLEGAL_ARGUMENT);
            Check.dueCall("kind", () -> x.kind(slot, 9), Parcels.ILLEGAL_ARGUMENT);
            Check.dueCall("above", () -> x.above(slot, 9), Parcels.ILLEGAL_ARGUMENT);
            Check.dueCall("look", () -> x.look(slot, 9, 0), Parcels.ILLEGAL_ARGUMENT);
            Check.dueCall("letters", () -> x.letters(slot, 9), Parcels.ILLEGAL_ARGUMENT);
            Check.dueCall("letter", () -> x.letter(slot, 9, 0), Parcels.ILLEGAL_ARGUMENT);
        }
        int[] nodes = {-1, 3, 40, 80, Integer.MIN_VALUE, Integer.MAX_VALUE};
        for (int node : nodes) {
            Check.dueCall("kind", () -> x.kind(0, node), Parcels.OUT_OF_BOUNDS);
            Check.dueCall("above", () -> x.above(0, node), Parcels.OUT_OF_BOUNDS);
            Check.dueCall("look", () -> x.look(0, node, 2), Parcels.OUT_OF_BOUNDS);
            Check.dueCall("letters", () -> x.letters(0, node), Parcels.OUT_OF_BOUNDS);
            Check.dueCall("letter", () -> x.letter(0, node, 0), Parcels.OUT_OF_BOUNDS);
            Check.dueCall("look for nothing", () -> x.look(0, node, 3), Parcels.ILLEGAL_ARGUMENT);
        }
        for (int slot = 1; slot < 3; slot++) {
            int empty = slot;
            Check.dueCall("kind of an empty slot", () -> x.kind(empty, 0), Parcels.OUT_OF_BOUNDS);
            Check.dueCall("look of an empty slot", () -> x.look(empty, 0, 0), Parcels.OUT_OF_BOUNDS);
        }
        Check.dueCall("look for -1", () -> x.look(0, 1, -1), Parcels.ILLEGAL_ARGUMENT);
        Check.dueCall("look for 3", () -> x.look(0, 1, 3), Parcels.ILLEGAL_ARGUMENT);
        Check.dueCall("look of the sheet for 3", () -> x.look(0, 0, 3), Parcels.ILLEGAL_ARGUMENT);
        Check.due("letter 1", x.letter(0, 2, 1), 98);
        int[] none = {-1, 2, Integer.MIN_VALUE, Integer.MAX_VALUE};
        for (int i : none) {
            Check.due("letter(0, 2, " + i + ")", x.letter(0, 2, i), -1);
        }
        Check.due("letter of a paragraph", x.letter(0, 1, 0), -1);
        Check.due("letter of the sheet", x.letter(0, 0, 0), -1);
        Check.due("letters of the sheet", x.letters(0, 0), 0);
    }
}
