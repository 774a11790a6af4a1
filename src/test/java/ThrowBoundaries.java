import java.util.function.Supplier;

/** The sentences of slots and of calls that throw. */
final class ThrowBoundaries {
    private static final int[] WRONG_SLOTS = {Integer.MIN_VALUE, -2, -1, 3, 4, Integer.MAX_VALUE};

    private ThrowBoundaries() {
    }

    static void run() {
        nothingChanges();
        firstThatFits();
        wrongSlots();
        threeSlots();
    }

    /** A text, a place, three different documents and a script. */
    private static PaperParcels full() {
        PaperParcels x = Cases.both(Cases.STYLE, "<p>ab</p><p>c</p>", "<p y=\"A\">a</p>");
        x.compare();
        x.apply(1);
        Parcels.read(x, 0, "S0004<t/>0000" + Cases.C);
        return x;
    }

    private static void throwing(PaperParcels x, String what, Supplier<Object> call, String want) {
        String before = Parcels.state(x);
        Check.dueCall(what, call, want);
        Check.due("what " + what + " left", Parcels.state(x), before);
    }

    private static void nothingChanges() {
        Check.says("A call that throws changes nothing;");
        PaperParcels full = full();
        Check.due("the place", full.place(), 9);
        Check.due("the nodes", full.nodes(0) + " " + full.nodes(1) + " " + full.nodes(2), "5 3 5");
        PaperParcels[] objects = {new PaperParcels(), Cases.with("", "<d><p>a</p></d>"), full};
        for (PaperParcels x : objects) {
            throwing(x, "read", () -> x.read(2), Parcels.ILLEGAL_ARGUMENT);
            throwing(x, "nodes", () -> x.nodes(3), Parcels.ILLEGAL_ARGUMENT);
            throwing(x, "kind", () -> x.kind(3, 0), Parcels.ILLEGAL_ARGUMENT);
            throwing(x, "kind", () -> x.kind(0, 40), Parcels.OUT_OF_BOUNDS);
            throwing(x, "above", () -> x.above(1, -1), Parcels.OUT_OF_BOUNDS);
            throwing(x, "look", () -> x.look(0, 0, 3), Parcels.ILLEGAL_ARGUMENT);
            throwing(x, "look", () -> x.look(0, 40, 0), Parcels.OUT_OF_BOUNDS);
            throwing(x, "letters", () -> x.letters(2, 80), Parcels.OUT_OF_BOUNDS);
            throwing(x, "letter", () -> x.letter(2, 80, 0), Parcels.OUT_OF_BOUNDS);
            throwing(x, "step", () -> x.step(80, true), Parcels.OUT_OF_BOUNDS);
            throwing(x, "apply", () -> x.apply(-1), x == full ? Parcels.ILLEGAL_ARGUMENT : Parcels.ILLEGAL_STATE);
            throwing(x, "emit", () -> x.emit(0, 2), Parcels.ILLEGAL_ARGUMENT);
            if (x != full) {
                throwing(x, "compare", () -> x.compare(), Parcels.ILLEGAL_STATE);
                throwing(x, "emit", () -> x.emit(2, 1), Parcels.ILLEGAL_STATE);
            }
        }
        PaperParcels large = Cases.with("<s n=\"A\" k=\"1\"/><s n=\"B\" k=\"2\"/>",
                "<d><p>a<x y=\"A\">b<x y=\"B\">c</x>d</x>e" + "z".repeat(243) + "</p></d>");
        throwing(large, "emit", () -> large.emit(0, 0), Parcels.UNSUPPORTED);
        throwing(large, "emit", () -> large.emit(0, 1), Parcels.UNSUPPORTED);
    }

    private static void firstThatFits() {
        Check.says("the first exception in its throws clause that fits is thrown.");
        PaperParcels x = full();
        PaperParcels empty = new PaperParcels();
        int[] nodes = {-1, 0, 40, 80};
        for (int slot : WRONG_SLOTS) {
            for (int node : nodes) {
                Check.dueCall("kind", () -> x.kind(slot, node), Parcels.ILLEGAL_ARGUMENT);
                Check.dueCall("above", () -> x.above(slot, node), Parcels.ILLEGAL_ARGUMENT);
                Check.dueCall("look", () -> x.look(slot, node, 0), Parcels.ILLEGAL_ARGUMENT);
                Check.dueCall("look", () -> x.look(slot, node, 3), Parcels.ILLEGAL_ARGUMENT);
                Check.dueCall("letters", () -> x.letters(slot, node), Parcels.ILLEGAL_ARGUMENT);
                Check.dueCall("letter", () -> x.letter(slot, node, -1), Parcels.ILLEGAL_ARGUMENT);
            }
            Check.dueCall("emit", () -> x.emit(slot, 2), Parcels.ILLEGAL_ARGUMENT);
            Check.dueCall("emit", () -> empty.emit(slot, 0), Parcels.ILLEGAL_ARGUMENT);
        }
        Check.dueCall("look of no node for nothing", () -> x.look(0, 40, 3), Parcels.ILLEGAL_ARGUMENT);
        Check.dueCall("look in an empty slot for nothing", () -> empty.look(0, 0, -1), Parcels.ILLEGAL_ARGUMENT);
        Check.dueCall("apply without a script", () -> empty.apply(-1), Parcels.ILLEGAL_STATE);
        Check.dueCall("apply with one", () -> x.apply(-1), Parcels.ILLEGAL_ARGUMENT);
        Check.dueCall("emit of an empty slot", () -> empty.emit(0, 2), Parcels.ILLEGAL_ARGUMENT);
        Check.dueCall("emit of an empty slot", () -> empty.emit(0, 1), Parcels.ILLEGAL_STATE);
        PaperParcels large = Cases.with("<s n=\"A\" k=\"1\"/><s n=\"B\" k=\"2\"/>",
                "<d><p>a<x y=\"A\">b<x y=\"B\">c</x>d</x>e" + "z".repeat(243) + "</p></d>");
        Check.dueCall("emit of what is too large", () -> large.emit(0, 2), Parcels.ILLEGAL_ARGUMENT);
        Check.dueCall("emit of what is too large", () -> large.emit(0, 1), Parcels.UNSUPPORTED);
    }

    private static void wrongSlots() {
        Check.says("IllegalArgumentException: a slot isn't 0, 1, 2 (or as said).");
        PaperParcels x = full();
        for (int slot : WRONG_SLOTS) {
            throwing(x, "nodes(" + slot + ")", () -> x.nodes(slot), Parcels.ILLEGAL_ARGUMENT);
            throwing(x, "kind(" + slot + ")", () -> x.kind(slot, 0), Parcels.ILLEGAL_ARGUMENT);
            throwing(x, "above(" + slot + ")", () -> x.above(slot, 0), Parcels.ILLEGAL_ARGUMENT);
            throwing(x, "look(" + slot + ")", () -> x.look(slot, 0, 0), Parcels.ILLEGAL_ARGUMENT);
            throwing(x, "letters(" + slot + ")", () -> x.letters(slot, 0), Parcels.ILLEGAL_ARGUMENT);
            throwing(x, "letter(" + slot + ")", () -> x.letter(slot, 0, 0), Parcels.ILLEGAL_ARGUMENT);
            throwing(x, "emit(" + slot + ")", () -> x.emit(slot, 0), Parcels.ILLEGAL_ARGUMENT);
            throwing(x, "read(" + slot + ")", () -> x.read(slot), Parcels.ILLEGAL_ARGUMENT);
        }
        for (int s = 0; s < 3; s++) {
            int slot = s;
            Check.dueCall("kind(" + slot + ", 0)", () -> x.kind(slot, 0), 0);
            Check.dueCall("above(" + slot + ", 0)", () -> x.above(slot, 0), -1);
            Check.dueCall("look(" + slot + ", 0, 0)", () -> x.look(slot, 0, 0), -1);
            Check.dueCall("letters(" + slot + ", 0)", () -> x.letters(slot, 0), 0);
            Check.dueCall("letter(" + slot + ", 0, 0)", () -> x.letter(slot, 0, 0), -1);
            Check.dueCall("emit(" + slot + ", 0)", () -> x.emit(slot, 0) > 26, true);
        }
        Check.dueCall("read(2)", () -> x.read(2), Parcels.ILLEGAL_ARGUMENT);
    }

    private static void threeSlots() {
        Check.says("There are three SLOTS, at first empty.");
        PaperParcels x = new PaperParcels();
        for (int s = 0; s < 3; s++) {
            int slot = s;
            Check.dueCall("nodes(" + slot + ")", () -> x.nodes(slot), 0);
            Check.dueCall("kind(" + slot + ", 0)", () -> x.kind(slot, 0), Parcels.OUT_OF_BOUNDS);
            Check.dueCall("emit(" + slot + ", 0)", () -> x.emit(slot, 0), Parcels.ILLEGAL_STATE);
        }
        Check.dueCall("compare", () -> x.compare(), Parcels.ILLEGAL_STATE);
        Check.dueCall("nodes(3)", () -> x.nodes(3), Parcels.ILLEGAL_ARGUMENT);
        Cases.readInto(x, 0, "", "<d><p>a</p></d>");
        Cases.readInto(x, 1, "", "<d><p/></d>");
        x.compare();
        x.apply(0);
        Cases.readInto(x, 0, "", "<d/>");
        Check.due("each for itself", x.nodes(0) + " " + x.nodes(1) + " " + x.nodes(2), "1 2 3");
    }
}
