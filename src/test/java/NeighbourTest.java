/**
 * All texts that lie one character beside a package, and all packages whose contents lie one character
 * beside others: every answer compared with the model's.
 */
public final class NeighbourTest {
    private static final String SHEET = "<t><s n=\"A\" f=\"B\" b=\"1\"/><s n=\"B\" z=\"99\" k=\"7\"></s></t>";
    private static final String BODY = "<d><p y=\"A\">ab<x y=\"B\">c</x></p><l><i><p/></i></l></d>";
    private static int goodReads = 0;
    private static int badReads = 0;

    private final PaperParcels x = new PaperParcels();
    private final Model.Node first;

    private NeighbourTest() {
        String text = Parcels.plain(SHEET, BODY);
        first = Model.read(text);
        Check.due("read", Parcels.read(x, 0, text), "0:-1");
    }

    public static void main(String[] args) {
        new NeighbourTest().all();
        Check.due("good and bad ones were met", goodReads > 1000 && badReads > 1000, true);
        Check.finish("NeighbourTest");
    }

    private void all() {
        textsBeside(Parcels.plain("<t/>", "<d><p>a</p></d>"));
        textsBeside(Parcels.part("S", 1, "<t/>", "<t/>")
                + Parcels.part("C", 1, "<d><p>abc~031~090</p></d>", "<d><p>abcabcabcabcab</p></d>"));
        for (int place = 0; place <= SHEET.length(); place++) {
            for (char sign = 31; sign < 127; sign++) {
                read(Parcels.plain(beside(SHEET, place, sign, false), BODY));
                read(Parcels.plain(beside(SHEET, place, sign, true), BODY));
            }
        }
        for (int place = 0; place <= BODY.length(); place++) {
            for (char sign = 31; sign < 127; sign++) {
                read(Parcels.plain(SHEET, beside(BODY, place, sign, false)));
                read(Parcels.plain(SHEET, beside(BODY, place, sign, true)));
            }
        }
    }

    private void textsBeside(String text) {
        Check.due("read of " + text, Parcels.read(x, 1, text), "0:-1");
        for (int place = 0; place <= text.length(); place++) {
            for (char sign = 31; sign < 127; sign++) {
                read(beside(text, place, sign, false));
                read(beside(text, place, sign, true));
            }
        }
    }

    /** With another character at a place, or one more in front of it; character 31 stands for none. */
    private static String beside(String text, int place, char sign, boolean more) {
        String put = sign == 31 ? "" : String.valueOf(sign);
        int rest = more || place == text.length() ? place : place + 1;
        return text.substring(0, place) + put + text.substring(rest);
    }

    private void read(String text) {
        int fault = 0;
        int place = -1;
        Model.Node second = null;
        try {
            second = Model.read(text);
        } catch (Model.Fault f) {
            fault = f.number;
            place = f.place;
        }
        Check.due("read of " + text, Parcels.read(x, 1, text), fault + ":" + place);
        if (second == null) {
            badReads++;
        } else {
            goodReads++;
            compare(text, second);
        }
    }

    private void compare(String text, Model.Node second) {
        Check.due("plain form of " + text, Parcels.describe(x, 1), Model.describe(second));
        Model.Comparison due = new Model.Comparison(first, second);
        Check.due("compare with " + text, x.compare() + ": " + Parcels.script(x), due.cost + ": " + due.script());
        for (int n = 0; n <= due.count(); n++) {
            Model.Node applied = due.apply(n);
            Check.due("apply " + n, x.apply(n), applied.all().size());
            Check.due("slot 2 after " + n + " steps to " + text, Parcels.describe(x, 2), Model.describe(applied));
        }
        for (int method = 0; method < 2; method++) {
            String want = Model.emit(second, method);
            Check.due("emit of " + text, x.emit(1, method) + Parcels.text(x), want.length() + want);
        }
    }
}
