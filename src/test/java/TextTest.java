/** Promises 1 to 5: a new object, write, wipe, length, character. */
public final class TextTest {
    public static void main(String[] args) {
        newObject();
        order();
        wrongBytes();
        limit();
        Check.finish("TextTest");
    }

    private static void newObject() {
        PaperParcels x = new PaperParcels();
        Check.due("length of a new object", x.length(), 0);
        Check.due("character(0) of a new object", x.character(0), -1);
        Check.due("wipe of a new object", x.wipe(), 0);
        Check.due("place of a new object", x.place(), -1);
        Check.due("steps of a new object", x.steps(), 0);
        for (int s = 0; s < 3; s++) {
            int slot = s;
            Check.due("nodes of a new slot", x.nodes(slot), 0);
            Check.dueCall("kind in a new slot", () -> x.kind(slot, 0), Parcels.OUT_OF_BOUNDS);
            Check.dueCall("emit of a new slot", () -> x.emit(slot, 0), Parcels.ILLEGAL_STATE);
        }
        Check.dueCall("compare of a new object", () -> x.compare(), Parcels.ILLEGAL_STATE);
        Check.dueCall("apply of a new object", () -> x.apply(0), Parcels.ILLEGAL_STATE);
        Check.dueCall("step of a new object", () -> x.step(0, true), Parcels.OUT_OF_BOUNDS);
    }

    private static void order() {
        PaperParcels x = new PaperParcels();
        Check.due("write of eight", x.write(0x4847464544434241L), true);
        Check.due("text of eight", Parcels.text(x), "ABCDEFGH");
        Check.due("write with bytes 0", x.write(0x7E00000020000061L), true);
        Check.due("text with bytes left out", Parcels.text(x), "ABCDEFGHa ~");
        Check.due("write of nothing", x.write(0), true);
        Check.due("length", x.length(), 11);
        Check.due("character(10)", x.character(10), 126);
        int[] none = {11, 480, -1, Integer.MIN_VALUE, Integer.MAX_VALUE};
        for (int i : none) {
            Check.due("character(" + i + ")", x.character(i), PaperParcels.NONE);
        }
        Check.due("wipe", x.wipe(), 11);
        Check.due("length after wipe", x.length(), 0);
        Check.due("character(0) after wipe", x.character(0), -1);
        Check.due("wipe again", x.wipe(), 0);
        x.write('q');
        Check.due("write after wipe", Parcels.text(x), "q");
    }

    private static void wrongBytes() {
        PaperParcels x = new PaperParcels();
        x.write('x');
        long[] wrong = {31, 127, 128, 255, 1, 10, -1, Long.MIN_VALUE, 0x1F41, 0x417F, 0x8041414141414141L,
            0x7F00000000000000L};
        for (long w : wrong) {
            Check.due("write(" + w + ")", x.write(w), false);
            Check.due("text after write(" + w + ")", Parcels.text(x), "x");
        }
        Check.due("write(32)", x.write(32), true);
        Check.due("write(126)", x.write(126), true);
        Check.due("text", Parcels.text(x), "x ~");
    }

    private static void limit() {
        PaperParcels x = new PaperParcels();
        Check.due("476 characters", Parcels.write(x, "abcdefg".repeat(68)), true);
        Check.due("five more", x.write(0x4545454545L), false);
        Check.due("length 476", x.length(), 476);
        Check.due("four more", x.write(0x44434241L), true);
        Check.due("length 480", x.length(), 480);
        Check.due("one more", x.write('a'), false);
        Check.due("none more", x.write(0), true);
        Check.due("character(479)", x.character(479), 68);
        Check.due("character(480)", x.character(480), -1);
        Check.due("wipe of 480", x.wipe(), 480);
        Check.due("write after it", x.write('a'), true);
    }
}
