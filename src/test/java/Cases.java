/** Packages with the fault and the place that are due, and objects that have read packages. */
final class Cases {
    static final String S = Parcels.part("S", 0, "<t/>", "<t/>");
    static final String C = Parcels.part("C", 0, "<d/>", "<d/>");
    static final String STYLE = "<s n=\"A\" b=\"1\"/>";

    /** A read of the longest text takes 63 calls, so that an object is used up after eight. */
    private static final int USES_MOST = 8;
    private static PaperParcels used = new PaperParcels();
    private static int uses = 0;

    private Cases() {
    }

    /** Also on an object that has read the texts before, as nothing of them may be left. */
    static void text(String text, String want) {
        PaperParcels fresh = new PaperParcels();
        Check.due("read of '" + text + "'", Parcels.read(fresh, 0, text), want);
        Check.due("read on a used object of '" + text + "'", Parcels.read(used, 1, text), want);
        uses++;
        if (uses == USES_MOST) {
            used = fresh;
            uses = 1;
        }
    }

    static void sheet(String content, String want) {
        text(Parcels.plain(content, "<d/>"), want);
    }

    static void body(String content, String want) {
        text(Parcels.plain("<t/>", content), want);
    }

    static void styled(String styles, String content, String want) {
        text(fitting(styles, content), want);
    }

    /** What stands in the sheet's and in the body's outermost element as a package, packed if need be. */
    static String fitting(String styles, String content) {
        String s = styles.isEmpty() ? "<t/>" : "<t>" + styles + "</t>";
        String text = Parcels.plain(s, content);
        return text.length() > 480 ? Parcels.packed(s, content) : text;
    }

    static PaperParcels with(String styles, String content) {
        PaperParcels x = new PaperParcels();
        readInto(x, 0, styles, content);
        return x;
    }

    static void readInto(PaperParcels x, int slot, String styles, String content) {
        String text = fitting(styles, content);
        Check.due("read of '" + text + "'", Parcels.read(x, slot, text), "0:-1");
    }

    /** An object with two documents, each told by what is in its d. */
    static PaperParcels both(String styles, String first, String second) {
        PaperParcels x = new PaperParcels();
        readInto(x, 0, styles, "<d>" + first + "</d>");
        readInto(x, 1, styles, "<d>" + second + "</d>");
        return x;
    }

    /** The cost from what is in one d to what is in another, and behind a colon the script. */
    static void script(String styles, String first, String second, String want) {
        PaperParcels x = both(styles, first, second);
        Check.due("compare of " + first + " with " + second, x.compare() + ": " + Parcels.script(x), want);
    }

    /** The plain form in short: each node's kind, node above, look and letters. */
    static String shortForm(PaperParcels x, int slot) {
        StringBuilder all = new StringBuilder();
        for (int node = 0; node < x.nodes(slot); node++) {
            all.append(node == 0 ? "" : " ").append("SPRLI".charAt(x.kind(slot, node)));
            all.append(x.above(slot, node) == PaperParcels.NONE ? "" : String.valueOf(x.above(slot, node)));
            if (x.look(slot, node, 0) != PaperParcels.NONE) {
                all.append("/" + x.look(slot, node, 0) + "," + x.look(slot, node, 1) + "," + x.look(slot, node, 2));
            }
            for (int i = 0; i < x.letters(slot, node); i++) {
                all.append(i == 0 ? "=" : "").append((char) x.letter(slot, node, i));
            }
        }
        return all.toString();
    }

    static void plainForm(String styles, String content, String want) {
        Check.due("plain form of " + styles + " " + content, shortForm(with(styles, content), 0), want);
    }
}
