/** A whole object as the document tells it, with the model behind it: what each call answers or throws. */
final class Session {
    private String text = "";
    private int place = -1;
    private final Model.Node[] slots = new Model.Node[3];
    private Model.Comparison script;

    boolean write(long characters) {
        StringBuilder more = new StringBuilder();
        for (int i = 0; i < 8; i++) {
            char sign = (char) (characters >>> 8 * i & 255);
            if (sign != 0) {
                more.append(sign);
            }
        }
        if (!more.toString().matches("[ -~]*") || text.length() + more.length() > 480) {
            return false;
        }
        text += more;
        return true;
    }

    int wipe() {
        int had = text.length();
        text = "";
        return had;
    }

    int length() {
        return text.length();
    }

    int character(int i) {
        return i >= 0 && i < text.length() ? text.charAt(i) : -1;
    }

    Object read(int slot) {
        if (slot != 0 && slot != 1) {
            return Parcels.ILLEGAL_ARGUMENT;
        }
        try {
            slots[slot] = Model.read(text);
        } catch (Model.Fault fault) {
            place = fault.place;
            return fault.number;
        }
        script = null;
        place = -1;
        return 0;
    }

    int place() {
        return place;
    }

    Object nodes(int slot) {
        if (isNoSlot(slot)) {
            return Parcels.ILLEGAL_ARGUMENT;
        }
        return slots[slot] == null ? 0 : slots[slot].all().size();
    }

    Object kind(int slot, int node) {
        Object refused = refused(slot, node);
        return refused != null ? refused : "SPRLI".indexOf(node(slot, node).kind);
    }

    Object above(int slot, int node) {
        Object refused = refused(slot, node);
        if (refused != null) {
            return refused;
        }
        for (Model.Node other : slots[slot].all()) {
            if (other.in.contains(node(slot, node))) {
                return slots[slot].all().indexOf(other);
            }
        }
        return -1;
    }

    Object look(int slot, int node, int what) {
        if (what < 0 || what > 2) {
            return Parcels.ILLEGAL_ARGUMENT;
        }
        Object refused = refused(slot, node);
        return refused != null ? refused : node(slot, node).look.split(" ")[what];
    }

    Object letters(int slot, int node) {
        Object refused = refused(slot, node);
        return refused != null ? refused : node(slot, node).letters.length();
    }

    Object letter(int slot, int node, int i) {
        Object refused = refused(slot, node);
        if (refused != null) {
            return refused;
        }
        String letters = node(slot, node).letters;
        return i >= 0 && i < letters.length() ? letters.charAt(i) : -1;
    }

    Object compare() {
        if (slots[0] == null || slots[1] == null) {
            return Parcels.ILLEGAL_STATE;
        }
        script = new Model.Comparison(slots[0], slots[1]);
        return script.cost;
    }

    int steps() {
        return script == null ? 0 : script.count();
    }

    Object step(int k, boolean fresh) {
        if (k < 0 || k >= steps()) {
            return Parcels.OUT_OF_BOUNDS;
        }
        return script.script().split(" ")[k].split(">")[fresh ? 1 : 0];
    }

    Object apply(int n) {
        if (script == null) {
            return Parcels.ILLEGAL_STATE;
        }
        if (n < 0 || n > steps()) {
            return Parcels.ILLEGAL_ARGUMENT;
        }
        slots[2] = script.apply(n);
        return slots[2].all().size();
    }

    Object emit(int slot, int method) {
        if (isNoSlot(slot) || method != 0 && method != 1) {
            return Parcels.ILLEGAL_ARGUMENT;
        }
        if (slots[slot] == null) {
            return Parcels.ILLEGAL_STATE;
        }
        String whole = Model.emit(slots[slot], method);
        if (whole == null) {
            return Parcels.UNSUPPORTED;
        }
        text = whole;
        return text.length();
    }

    private static boolean isNoSlot(int slot) {
        return slot < 0 || slot > 2;
    }

    private Object refused(int slot, int node) {
        if (isNoSlot(slot)) {
            return Parcels.ILLEGAL_ARGUMENT;
        }
        boolean is = slots[slot] != null && node >= 0 && node < slots[slot].all().size();
        return is ? null : Parcels.OUT_OF_BOUNDS;
    }

    private Model.Node node(int slot, int node) {
        return slots[slot].all().get(node);
    }
}
