/** Promise 18: emit. */
public final class EmitTest {
    public static void main(String[] args) {
        written();
        sizes();
        packed();
        contentLimits();
        manyLooks();
        textLimit();
        wrongInputs();
        Check.finish("EmitTest");
    }

    private static PaperParcels with(String styles, String body) {
        PaperParcels x = new PaperParcels();
        String s = styles.isEmpty() ? "<t/>" : "<t>" + styles + "</t>";
        Check.due("read of " + body, Parcels.read(x, 0, Parcels.packed(s, body)), "0:-1");
        return x;
    }

    private static void due(PaperParcels x, int method, String want) {
        Check.dueCall("emit of " + want, () -> x.emit(0, method), want.length());
        Check.due("what emit wrote", Parcels.text(x), want);
        Check.due("length", x.length(), want.length());
        String form = Parcels.describe(x, 0);
        Check.due("read again", x.read(1) + Parcels.describe(x, 1), 0 + form);
    }

    private static void written() {
        due(with("", "<d></d>"), 0, "S0004<t/>2296C0004<d/>61f5");
        due(with("", "<d/>"), 1, "S1004<t/>2296C1004<d/>61f5");
        due(with("<s n=\"Q\" k=\"3\"/>", "<d><p></p><l><i><p>a<x>b</x></p></i></l></d>"), 0,
                Parcels.plain("<t/>", "<d><p/><l><i><p>ab</p></i></l></d>"));
        due(with("<s n=\"Q\" k=\"3\"/><s n=\"P\" f=\"Q\" b=\"1\"/><s n=\"R\" b=\"0\" z=\"10\" k=\"0\"/>"
                + "<s n=\"T\" z=\"7\"/>",
                "<d><p><x y=\"P\">a</x>b<x y=\"Q\">c<x y=\"P\">d</x></x></p><p y=\"Q\"><x>e</x><x y=\"R\">f</x></p>"
                + "<p y=\"R\"/><p y=\"T\"/></d>"), 0,
                Parcels.plain("<t><s n=\"A\" b=\"1\" z=\"10\" k=\"3\"/><s n=\"B\" b=\"0\" z=\"10\" k=\"3\"/>"
                + "<s n=\"C\" b=\"0\" z=\"10\" k=\"0\"/><s n=\"D\" b=\"0\" z=\"7\" k=\"0\"/></t>",
                "<d><p><x y=\"A\">a</x>b<x y=\"B\">c</x><x y=\"A\">d</x></p><p y=\"B\">e<x y=\"C\">f</x></p>"
                + "<p/><p y=\"D\"/></d>"));
    }

    private static void sizes() {
        int[] sizes = {99, 100, 101, 109, 110, 199, 200, 299, 300};
        for (int size : sizes) {
            String body = "<d><p>" + "a".repeat(size - 14) + "</p></d>";
            due(with("", body), 0, "S0004<t/>2296" + Parcels.part("C", 0, body, body));
        }
        String styles = "";
        String body = "";
        int[] z = {1, 9, 10, 99};
        for (int i = 0; i < z.length; i++) {
            char name = (char) ('A' + i);
            styles += "<s n=\"" + name + "\" b=\"1\" z=\"" + z[i] + "\" k=\"" + (9 - i) + "\"/>";
            body += "<p y=\"" + name + "\"/>";
        }
        PaperParcels x = with(styles, "<d>" + body + "</d>");
        due(x, 0, Parcels.plain("<t>" + styles + "</t>", "<d>" + body + "</d>"));
        due(x, 1, Parcels.packed("<t>" + styles + "</t>", "<d>" + body + "</d>"));
        Check.due("another document on the same object", Parcels.read(x, 0, Parcels.plain("<t/>", "<d/>")), "0:-1");
        due(x, 0, Parcels.plain("<t/>", "<d/>"));
    }

    private static void packedLetters(String letters, String data) {
        String body = "<d><p>" + letters + "</p></d>";
        due(with("", body), 1, "S1004<t/>2296" + Parcels.part("C", 1, "<d><p>" + data + "</p></d>", body));
    }

    private static void packed() {
        packedLetters("aaaaa", "aaaaa");
        packedLetters("aaaaaa", "a~010");
        packedLetters("a".repeat(15), "a~019");
        packedLetters("a".repeat(16), "a~019a");
        packedLetters("a".repeat(20), "a~019~010");
        packedLetters("abcabcabc", "abc~031");
        packedLetters("abcdeXabcde", "abcdeX~060");
        packedLetters("abcdXabcd", "abcdXabcd");
        packedLetters("abcdefghijabcde", "abcdefghij~100");
        packedLetters("abcdeXabcdeYabcde", "abcdeX~060Y~060");
        packedLetters("abcdefXabcdeYabcdef", "abcdefX~070Y~131");
        packedLetters("abcdefghijklmnoXabcdefghijklmnYabcdefghijklmno",
                "abcdefghijklmnoX~169Y~159o");
        String far = "0123456789!@#$%^*()_+-=[]{}|;:',.?ABCDEFGHIJKLMNOPQRSTUVWXYZ`fghijklmnopqrstuvwxyz 13579 086421";
        packedLetters("abcde" + far.substring(0, 94) + "abcde", "abcde" + far.substring(0, 94) + "~990");
        packedLetters("abcde" + far.substring(0, 95) + "abcde", "abcde" + far.substring(0, 95) + "abcde");
        String body = "<d><p>a</p><p>a</p></d>";
        due(with("", body), 1, "S1004<t/>2296" + Parcels.part("C", 1, "<d><p>a</p~085/d>", body));
    }

    /** Runs with a look of their own within one another take more characters than the x they came from. */
    private static void contentLimits() {
        String styles = "<s n=\"A\" k=\"1\"/><s n=\"B\" k=\"2\"/>";
        String grows = "a<x y=\"A\">b<x y=\"B\">c</x>d</x>e";
        String fits = "<d><p>" + grows + "z".repeat(300 - 14 - 44) + "</p></d>";
        PaperParcels x = with(styles, fits);
        Check.dueCall("content of 300", () -> x.emit(0, 1) > 0, true);
        PaperParcels one = with(styles, fits.replaceFirst("z", "zz"));
        refused("content of 301", one, 0);
        refused("content of 301", one, 1);

        StringBuilder ten = new StringBuilder();
        StringBuilder uses = new StringBuilder();
        for (int i = 0; i < 10; i++) {
            ten.append("<s n=\"" + (char) ('A' + i) + "\" z=\"" + (11 + i) + "\"/>");
            uses.append("<p y=\"" + (char) ('A' + i) + "\"/>");
        }
        PaperParcels looks = with(ten.toString(), "<d>" + uses + "</d>");
        Check.dueCall("ten looks", () -> looks.emit(0, 0), 297 + 107 + 18);
        PaperParcels more = with(ten + "<s n=\"K\" z=\"99\"/>", "<d>" + uses + "<p y=\"K\"/></d>");
        refused("eleven looks", more, 0);
        refused("eleven looks", more, 1);
    }

    /** Only what comes of two documents can need more than 26 looks. */
    private static void manyLooks() {
        PaperParcels x = new PaperParcels();
        StringBuilder oldStyles = new StringBuilder();
        StringBuilder olds = new StringBuilder();
        StringBuilder freshStyles = new StringBuilder();
        StringBuilder freshs = new StringBuilder();
        for (int i = 0; i < 14; i++) {
            char name = (char) ('A' + i);
            oldStyles.append(i == 13 ? "" : "<s n=\"" + name + "\" z=\"" + (11 + i) + "\"/>");
            olds.append(i == 13 ? "" : "<p y=\"" + name + "\"/>");
            freshStyles.append("<s n=\"" + name + "\" z=\"" + (31 + i) + "\"/>");
            freshs.append("<p y=\"" + name + "\">b</p>");
        }
        String anchor = "<p>aaaaaaaa</p>";
        Check.due("13 looks", Parcels.read(x, 0, Parcels.packed("<t>" + oldStyles + "</t>",
                "<d>" + anchor + "<l><i>" + olds + "</i></l></d>")), "0:-1");
        Check.due("14 looks", Parcels.read(x, 1, Parcels.packed("<t>" + freshStyles + "</t>",
                "<d>" + freshs + anchor + "</d>")), "0:-1");
        Check.due("cost", x.compare(), 14 * 3 + 2 + 13);
        Check.due("27 looks side by side", x.apply(14), 1 + 14 * 2 + 2 + 2 + 13);
        String before = Parcels.state(x);
        for (int method = 0; method < 2; method++) {
            int m = method;
            Check.dueCall("27 looks", () -> x.emit(2, m), Parcels.UNSUPPORTED);
        }
        Check.due("what 27 looks left", Parcels.state(x), before);
    }

    private static void textLimit() {
        StringBuilder ten = new StringBuilder();
        StringBuilder uses = new StringBuilder();
        for (int i = 0; i < 10; i++) {
            ten.append("<s n=\"" + (char) ('A' + i) + "\" z=\"" + (11 + i) + "\"/>");
            uses.append("<p y=\"" + (char) ('A' + i) + "\"/>");
        }
        int letters = 480 - 297 - 107 - 18 - 7;
        PaperParcels x = with(ten.toString(), "<d>" + uses + "<p>" + "q".repeat(letters) + "</p></d>");
        Check.dueCall("a text of 480", () -> x.emit(0, 0), 480);
        Check.due("it can be read", x.read(1), 0);
        PaperParcels y = with(ten.toString(), "<d>" + uses + "<p>" + "q".repeat(letters + 1) + "</p></d>");
        refused("a text of 481", y, 0);
        Check.dueCall("packed it fits", () -> y.emit(0, 1) < 480, true);
    }

    private static void refused(String what, PaperParcels x, int method) {
        String before = Parcels.state(x);
        Check.dueCall(what, () -> x.emit(0, method), Parcels.UNSUPPORTED);
        Check.due("what " + what + " left", Parcels.state(x), before);
        Check.dueCall("first fitting", () -> x.emit(0, 2), Parcels.ILLEGAL_ARGUMENT);
    }

    private static void wrongInputs() {
        PaperParcels x = with("", "<d><p>a</p></d>");
        String before = Parcels.state(x);
        int[] wrong = {-1, 2, Integer.MIN_VALUE, Integer.MAX_VALUE};
        for (int method : wrong) {
            Check.dueCall("method " + method, () -> x.emit(0, method), Parcels.ILLEGAL_ARGUMENT);
            Check.dueCall("method " + method + ", empty", () -> x.emit(1, method), Parcels.ILLEGAL_ARGUMENT);
        }
        int[] slots = {-1, 3, Integer.MIN_VALUE, Integer.MAX_VALUE};
        for (int slot : slots) {
            Check.dueCall("slot " + slot, () -> x.emit(slot, 0), Parcels.ILLEGAL_ARGUMENT);
        }
        Check.dueCall("slot 1", () -> x.emit(1, 0), Parcels.ILLEGAL_STATE);
        Check.dueCall("slot 2", () -> x.emit(2, 1), Parcels.ILLEGAL_STATE);
        Check.due("what they left", Parcels.state(x), before);
    }
}
