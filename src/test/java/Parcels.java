/** Texts, parts and packages for the tests, made without the class under test. */
final class Parcels {
    static final String ILLEGAL_ARGUMENT = "throws.IllegalArgumentException";
    static final String ILLEGAL_STATE = "throws.IllegalStateException";
    static final String OUT_OF_BOUNDS = "throws.IndexOutOfBoundsException";
    static final String UNSUPPORTED = "throws.UnsupportedOperationException";

    private Parcels() {
    }

    static String check(String content) {
        int c = 65535;
        for (char sign : content.toCharArray()) {
            c ^= sign * 256;
            for (int i = 0; i < 8; i++) {
                c *= 2;
                if (c > 65535) {
                    c = (c - 65536) ^ 4129;
                }
            }
        }
        return String.format("%04x", c);
    }

    static String part(String name, int method, String data, String content) {
        return name + method + String.format("%03d", data.length()) + data + check(content);
    }

    /** A package whose parts are not packed. */
    static String plain(String s, String c) {
        return part("S", 0, s, s) + part("C", 0, c, c);
    }

    static String packed(String s, String c) {
        return part("S", 1, Model.pack(s), s) + part("C", 1, Model.pack(c), c);
    }

    static boolean write(PaperParcels x, String text) {
        boolean all = true;
        for (int from = 0; from < text.length(); from += 8) {
            long eight = 0;
            for (int i = Math.min(text.length(), from + 8) - 1; i >= from; i--) {
                eight = eight << 8 | text.charAt(i);
            }
            all &= x.write(eight);
        }
        return all;
    }

    static void rewrite(PaperParcels x, String text) {
        x.wipe();
        if (!write(x, text)) {
            throw new AssertionError("the test's own text was refused: " + text);
        }
    }

    static String text(PaperParcels x) {
        StringBuilder all = new StringBuilder();
        for (int i = 0; i < x.length(); i++) {
            all.append((char) x.character(i));
        }
        return all.toString();
    }

    /** Reads a text into a slot: the fault, and behind a colon its place. */
    static String read(PaperParcels x, int slot, String text) {
        rewrite(x, text);
        return x.read(slot) + ":" + x.place();
    }

    /** All that can be asked of a slot: each node's kind, node above, look and letters. */
    static String describe(PaperParcels x, int slot) {
        StringBuilder all = new StringBuilder();
        for (int node = 0; node < x.nodes(slot); node++) {
            all.append(node).append(' ').append("SPRLI".charAt(x.kind(slot, node)));
            all.append(" in ").append(x.above(slot, node)).append(" look");
            for (int what = 0; what < 3; what++) {
                all.append(' ').append(x.look(slot, node, what));
            }
            all.append(" letters ").append(x.letters(slot, node)).append(" '");
            for (int i = 0; x.letter(slot, node, i) != PaperParcels.NONE; i++) {
                all.append((char) x.letter(slot, node, i));
            }
            all.append("'\n");
        }
        return all.toString();
    }

    static String script(PaperParcels x) {
        StringBuilder all = new StringBuilder();
        for (int k = 0; k < x.steps(); k++) {
            all.append(k == 0 ? "" : " ").append(x.step(k, false)).append('>').append(x.step(k, true));
        }
        return all.toString();
    }

    /** Everything that an object shows, to see that a call changed nothing. */
    static String state(PaperParcels x) {
        return text(x) + "|" + x.place() + "|" + describe(x, 0) + "|" + describe(x, 1) + "|" + describe(x, 2)
                + "|" + script(x);
    }
}
