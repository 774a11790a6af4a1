/** Promises 6 and 7: read and place, each of the faults 1 to 7 with its place, and the first of several. */
public final class FaultTest {
    private static final String S = Parcels.part("S", 0, "<t/>", "<t/>");
    private static final String C = Parcels.part("C", 0, "<d/>", "<d/>");
    private static final PaperParcels X = new PaperParcels();

    public static void main(String[] args) {
        noParts();
        noContent();
        wrongCheck();
        noElement();
        manyElements();
        wrongElements();
        wrongStyles();
        manyNodes();
        firstOfSeveral();
        whatStays();
        Check.finish("FaultTest");
    }

    private static void due(String text, String want) {
        Check.due("read of '" + text + "'", Parcels.read(new PaperParcels(), 0, text), want);
        Check.due("read on a used object of '" + text + "'", Parcels.read(X, 1, text), want);
    }

    private static void sheet(String content, String want) {
        due(Parcels.plain(content, "<d/>"), want);
    }

    private static void body(String content, String want) {
        due(Parcels.plain("<t/>", content), want);
    }

    private static void styled(String styles, String content, String want) {
        due(Parcels.plain("<t>" + styles + "</t>", content), want);
    }

    private static void noParts() {
        due("", "1:0");
        due("C", "1:0");
        due(C + S, "1:0");
        due("S", "1:1");
        due("S2", "1:1");
        due("S0", "1:2");
        due("S0a04", "1:2");
        due("S00 4", "1:3");
        due("S000", "1:4");
        due("S000/", "1:4");
        due("S0004", "1:5");
        due("S0004<t/", "1:8");
        due("S0004<t/>", "1:9");
        due("S0004<t/>229", "1:12");
        due("S0004<t/>22966", "1:13");
        due("S0004<t/>22A6" + C, "1:11");
        due("S0004<t/>229g" + C, "1:12");
        due("S0999<t/>2296" + C, "1:26");
        due("S0480" + "a".repeat(475), "1:480");
        due(S, "1:13");
        due(S + S, "1:13");
        due(S + "C3", "1:14");
        due(S + "C0004<d/>61f", "1:25");
        due(S + "C0004<d/>61fx", "1:25");
        due(S + C + " ", "1:26");
        due(S + C + S + C, "1:26");
        due(S + C, "0:-1");
    }

    private static void noContent() {
        due("S1004~0110000" + C, "2:5");
        due("S1005a~0000000" + C, "2:6");
        due("S1005a~0200000" + C, "2:6");
        due("S1006ab~0300000" + C, "2:7");
        due("S1004a~010000" + C, "2:6");
        due("S1002a~0000" + C, "2:6");
        due("S1005a~0x00000" + C, "2:6");
        due("S1005ax~010000" + C, "2:7");
        due("S1009a~019~0x90000" + C, "2:10");
        due(S + "C1004~0110000", "2:18");
        String[] noDigits = {"~0:0", "~1/0", "~01:", "~01/", "~/:0", "~:/0", "~~01", "~ 10", "~1 0", "~01 "};
        for (String reference : noDigits) {
            due(S + "C1024abcdefghijklmnopqrst" + reference + "0000", "2:38");
        }
        String full = "<d><p>" + "a".repeat(286) + "</p></d>";
        due(S + Parcels.part("C", 0, full, full), "0:-1");
        due(S + Parcels.part("C", 0, full + "b", full), "2:318");
        due(S + Parcels.part("C", 1, full + "b", full), "2:318");
        due(S + Parcels.part("C", 1, "<d><p>a~019~019~019</p></d>", "<d><p>" + "a".repeat(43) + "</p></d>"), "0:-1");
        String references = "a" + "~019".repeat(21);
        due(S + Parcels.part("C", 1, references + "~010", "a".repeat(300)), "4:1000");
        due(S + Parcels.part("C", 1, references + "~010b", "a"), "2:107");
        due(S + Parcels.part("C", 1, references + "~011", "a"), "2:103");
        due(S + Parcels.part("C", 1, references + "~010~", "a"), "2:107");
        due(S + Parcels.part("C", 1, "<d><p>abc~039</p></d>", "<d><p>abcabcabcabcabcab</p></d>"), "0:-1");
        due(S + Parcels.part("C", 1, "<d><p>~060", "<d><p><d><p"), "4:1011");
        due(S + Parcels.part("C", 0, "~011", "~011"), "4:1000");
    }

    private static void wrongCheck() {
        String[] wrong = {"3296", "2396", "22a6", "2297", "0000"};
        for (String check : wrong) {
            due("S0004<t/>" + check + C, "3:9");
        }
        due(S + "C0004<d/>61f4", "3:22");
        due(S + "C0000ffff", "4:1000");
        due(S + "C0000fffe", "3:18");
        due("S0000ffff" + C, "4:0");
    }

    private static void noElement() {
        sheet("", "4:0");
        sheet("t", "4:0");
        sheet(" <t/>", "4:0");
        sheet("</t>", "4:1");
        sheet("<", "4:1");
        sheet("<T/>", "4:1");
        sheet("<t", "4:2");
        sheet("<tt/>", "4:2");
        sheet("<t/", "4:3");
        sheet("<t/ >", "4:3");
        sheet("<t/>>", "4:4");
        sheet("<t/><t/>", "4:4");
        sheet("<t></t> ", "4:7");
        sheet("<t>", "4:3");
        sheet("<t><", "4:4");
        sheet("<t></", "4:5");
        sheet("<t></s>", "4:5");
        sheet("<t></t", "4:6");
        sheet("<t></t >", "4:6");
        body("<d>a>b</d>", "4:1004");
        body("<d>a&b</d>", "4:1004");
        body("<d>a~b</d>", "4:1004");
        body("<d><p></d></p>", "4:1008");
        body("<d><p /></d>", "4:1006");
        body("<d><p  y=\"A\"/></d>", "4:1006");
        body("<d><p Y=\"A\"/></d>", "4:1006");
        body("<d><p y =\"A\"/></d>", "4:1007");
        body("<d><p y=A/></d>", "4:1008");
        body("<d><p y=\"A B\"/></d>", "4:1010");
        body("<d><p y=\"A-\"/></d>", "4:1010");
        body("<d><p y=\"A\"y=\"B\"/></d>", "4:1011");
        body("<d><p y=\"A\" y=\"B\"/></d>", "4:1012");
        body("<d><p a=\"\" b=\"\" a=\"\"/></d>", "4:1016");
        body("<d><p y=\"A", "4:1010");
        body("<d><p y=", "4:1008");
        body("<d><p y", "4:1007");
        body("<d><p ", "4:1006");
    }

    private static void manyElements() {
        body("<d>" + "<p/>".repeat(29) + "</d>", "0:-1");
        body("<d>" + "<p/>".repeat(30) + "</d>", "4:1119");
        body("<d>" + "<p/>".repeat(29) + "<", "4:1119");
        body("<d>" + "<p/>".repeat(29) + "</", "4:1121");
        body("<d>" + "<p/>".repeat(29) + "<7", "4:1119");
        sheet("<t>" + "<s/>".repeat(30) + "</t>", "4:119");
        sheet("<t>" + "<s/>".repeat(29) + "</t>", "5:3");
        String eight = "<d><p>" + "<x>".repeat(6);
        String ends = "</x>".repeat(6) + "</p></d>";
        body(eight + ends, "0:-1");
        body(eight + "a" + ends, "0:-1");
        body(eight + "<x/>" + ends, "4:1024");
        body(eight + "<", "4:1024");
        body(eight + "</", "4:1026");
        body("<d><l><i><l><i><l><i><p>a</p></i></l></i></l></i></l></d>", "0:-1");
        body("<d><l><i><l><i><l><i><p><x/></p></i></l></i></l></i></l></d>", "4:1024");
    }

    private static void wrongElements() {
        sheet("<d/>", "5:0");
        sheet("<s n=\"A\"/>", "5:0");
        body("<t/>", "5:1000");
        body("<p/>", "5:1000");
        sheet("<t n=\"A\"/>", "5:3");
        sheet("<t>a</t>", "5:3");
        sheet("<t><t/></t>", "5:3");
        sheet("<t><s n=\"A\"/> </t>", "5:13");
        styled("<s/>", "<d/>", "5:3");
        styled("<s b=\"1\"/>", "<d/>", "5:3");
        styled("<s n=\"\"/>", "<d/>", "5:6");
        styled("<s n=\"a\"/>", "<d/>", "5:6");
        styled("<s n=\"AB\"/>", "<d/>", "5:6");
        styled("<s n=\"A\" y=\"A\"/>", "<d/>", "5:12");
        styled("<s n=\"A\" f=\"1\"/>", "<d/>", "5:12");
        styled("<s n=\"A\" b=\"2\"/>", "<d/>", "5:12");
        styled("<s n=\"A\" b=\"01\"/>", "<d/>", "5:12");
        styled("<s n=\"A\" b=\"\"/>", "<d/>", "5:12");
        String[] wrongSizes = {"", "0", "00", "07", "100", "a", "1a", "A1"};
        for (String z : wrongSizes) {
            styled("<s n=\"A\" z=\"" + z + "\"/>", "<d/>", "5:12");
        }
        String[] sizes = {"1", "9", "10", "99"};
        for (String z : sizes) {
            styled("<s n=\"A\" z=\"" + z + "\"/>", "<d/>", "0:-1");
        }
        styled("<s n=\"A\" k=\"10\"/>", "<d/>", "5:12");
        styled("<s n=\"A\" k=\"k\"/>", "<d/>", "5:12");
        styled("<s k=\"0\" z=\"5\" b=\"0\" n=\"Z\"/>", "<d/>", "0:-1");
        styled("<s q=\"\" n=\"1\"/>", "<d/>", "5:6");
        styled("<s n=\"A\"></s>", "<d/>", "0:-1");
        styled("<s n=\"A\">q</s>", "<d/>", "5:12");
        styled("<s>q</s>", "<d/>", "5:3");
        styled("<s n=\"A\"><s n=\"B\"/></s>", "<d/>", "5:12");
        styled("<s n=\"A\"><s n=\"B\"/>q</s>", "<d/>", "5:22");
        body("<d y=\"A\"/>", "5:1003");
        body("<d> <p/></d>", "5:1003");
        body("<d><p/>q</d>", "5:1007");
        body("<d><d/></d>", "5:1003");
        body("<d><x/></d>", "5:1003");
        body("<d><i/></d>", "5:1003");
        body("<d><q/></d>", "5:1003");
        body("<d><p n=\"A\"/></d>", "5:1006");
        body("<d><p y=\"a\"/></d>", "5:1006");
        body("<d><p y=\"\"/></d>", "5:1006");
        body("<d><p><x y=\"AB\"/></p></d>", "5:1009");
        body("<d><p><p/></p></d>", "5:1006");
        body("<d><p><x><l/></x></p></d>", "5:1009");
        body("<d><l/></d>", "5:1003");
        body("<d><l></l></d>", "5:1003");
        body("<d><l><p/></l></d>", "5:1003");
        body("<d><l><p/><i><p/></i></l></d>", "5:1006");
        body("<d><l><i><p/></i><l/></l></d>", "5:1017");
        body("<d><l><i/></l></d>", "5:1006");
        body("<d><l y=\"A\"><i/></l></d>", "5:1006");
        body("<d><l> <i/></l></d>", "5:1006");
        body("<d><l><i><p/></i> </l></d>", "5:1017");
        body("<d><l><i y=\"A\"><p/></i></l></d>", "5:1009");
        body("<d><l><i> <p/></i></l></d>", "5:1009");
        body("<d><l><i><i><p/></i></i></l></d>", "5:1006");
        body("<d><l><i><i/><p/></i></l></d>", "5:1009");
        body("<d><l><i><p/></i><i><l><i><p/></i></l></i></l></d>", "0:-1");
    }

    private static void wrongStyles() {
        styled("<s n=\"A\"/><s n=\"B\"/><s n=\"A\"/>", "<d/>", "6:23");
        styled("<s n=\"A\" f=\"Z\"/><s n=\"A\"/>", "<d/>", "6:19");
        styled("<s n=\"B\"/><s n=\"A\" f=\"Z\"/>", "<d/>", "6:13");
        styled("<s n=\"A\" f=\"A\"/>", "<d/>", "6:3");
        styled("<s n=\"A\" f=\"A\"/><s n=\"B\" f=\"Z\"/>", "<d/>", "6:19");
        styled("<s n=\"C\" f=\"A\"/><s n=\"A\" f=\"B\"/><s n=\"B\" f=\"A\"/>", "<d/>", "6:3");
        styled("<s n=\"C\"/><s n=\"A\" f=\"B\"/><s n=\"B\" f=\"A\"/>", "<d/>", "6:13");
        styled("<s n=\"A\" f=\"B\"/><s n=\"B\" f=\"C\"/><s n=\"C\"/>", "<d/>", "0:-1");
        styled("<s n=\"B\"/>", "<d><p y=\"A\"/></d>", "6:1003");
        styled("<s n=\"B\"/>", "<d><p y=\"B\"><x y=\"C\"/></p></d>", "6:1012");
        styled("<s n=\"A\" f=\"A\"/>", "<d><p y=\"C\"/></d>", "6:3");
        StringBuilder chain = new StringBuilder();
        for (char name = 'A'; name < 'Q'; name++) {
            chain.append("<s n=\"" + name + "\" f=\"" + (char) (name + 1) + "\"/>");
        }
        due(Parcels.packed("<t>" + chain + "<s n=\"Q\" k=\"7\"/></t>", "<d><p y=\"A\"/></d>"), "0:-1");
        Check.due("look from far above", X.look(1, 1, 2), 7);
        due(Parcels.packed("<t>" + chain + "<s n=\"Q\" f=\"P\"/></t>", "<d><p y=\"A\"/></d>"), "6:3");
    }

    private static void manyNodes() {
        body("<d>" + "<p>a</p>".repeat(19) + "<p/></d>", "0:-1");
        Check.due("forty nodes", X.nodes(1), 40);
        body("<d>" + "<p>a</p>".repeat(20) + "</d>", "7:0");
        body("<d>" + "<p>a</p>".repeat(19) + "<p/><p/></d>", "7:0");
        String letters = "a<x y=\"A\">b</x>".repeat(19);
        styled("<s n=\"A\" b=\"1\"/>", "<d><p>" + letters + "</p></d>", "0:-1");
        styled("<s n=\"A\" b=\"1\"/>", "<d><p>" + letters + "a</p></d>", "7:0");
        styled("<s n=\"A\" b=\"0\"/>", "<d><p>" + letters + "a</p></d>", "0:-1");
    }

    private static void firstOfSeveral() {
        due("S1004~0110000" + C + "x", "1:" + (13 + C.length()));
        due("S1004~0110000C1004~0110000", "2:5");
        due("S0004<t/>0000C1004~0110000", "3:9");
        due(S + "C1004~0110000", "2:18");
        due(Parcels.plain("<t>", "<d"), "4:3");
        due(Parcels.plain("<d/>", "<d"), "4:1002");
        due(Parcels.plain("<d/>", "<t/>"), "5:0");
        due(Parcels.plain("<t><s n=\"A\"/><s n=\"A\"/></t>", "<t/>"), "5:1000");
        due(Parcels.plain("<t><s n=\"A\"/><s n=\"A\"/></t>", "<d><p y=\"B\"/></d>"), "6:13");
        due(Parcels.plain("<t/>", "<d>" + "<p>a</p>".repeat(20) + "<p y=\"B\"/></d>"), "6:1163");
        due(Parcels.plain("<t><s n=\"A\"/><s n=\"1\"/></t>", "<d/>"), "5:16");
        due("S0004<t/>0000" + Parcels.part("C", 0, "<d", "<d"), "3:9");
    }

    private static void whatStays() {
        PaperParcels x = new PaperParcels();
        Check.due("good read", Parcels.read(x, 0, S + Parcels.part("C", 0, "<d><p/></d>", "<d><p/></d>")), "0:-1");
        String text = Parcels.text(x);
        Check.due("the text stays", x.read(1) + text, "0" + S + Parcels.part("C", 0, "<d><p/></d>", "<d><p/></d>"));
        Check.due("a fault", Parcels.read(x, 0, S + C + "9"), "1:26");
        Check.due("slot after a fault", x.nodes(0), 2);
        Check.due("text after a fault", Parcels.text(x), S + C + "9");
        Check.dueCall("read(2)", () -> x.read(2), Parcels.ILLEGAL_ARGUMENT);
        Check.dueCall("read(-1)", () -> x.read(-1), Parcels.ILLEGAL_ARGUMENT);
        Check.due("place after a read that throws", x.place(), 26);
        Check.due("a wipe leaves the place", x.wipe() + ":" + x.place(), "27:26");
        Check.due("in place of what was there", Parcels.read(x, 0, S + C), "0:-1");
        Check.due("slot 0 anew", x.nodes(0), 1);
        Check.due("slot 1 as it was", x.nodes(1), 2);
    }
}
