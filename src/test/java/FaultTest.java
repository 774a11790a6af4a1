/** Promises 6 and 7: read and place, each of the faults 1 to 7 with its place, and the first of several. */
public final class FaultTest {
    private static final String S = Cases.S;
    private static final String C = Cases.C;

    public static void main(String[] args) {
        noParts();
        noContent();
        wrongCheck();
        noElement();
        manyElements();
        wrongElements();
        wrongStyles();
        manyNodes();
        firstOfSeveral();
        whatStays();
        Check.finish("FaultTest");
    }

    private static void noParts() {
        Cases.text("", "1:0");
        Cases.text("C", "1:0");
        Cases.text(C + S, "1:0");
        Cases.text("S", "1:1");
        Cases.text("S2", "1:1");
        Cases.text("S0", "1:2");
        Cases.text("S0a04", "1:2");
        Cases.text("S00 4", "1:3");
        Cases.text("S000", "1:4");
        Cases.text("S000/", "1:4");
        Cases.text("S0004", "1:5");
        Cases.text("S0004<t/", "1:8");
        Cases.text("S0004<t/>", "1:9");
        Cases.text("S0004<t/>229", "1:12");
        Cases.text("S0004<t/>22966", "1:13");
        Cases.text("S0004<t/>22A6" + C, "1:11");
        Cases.text("S0004<t/>229g" + C, "1:12");
        Cases.text("S0999<t/>2296" + C, "1:26");
        Cases.text("S0480" + "a".repeat(475), "1:480");
        Cases.text(S, "1:13");
        Cases.text(S + S, "1:13");
        Cases.text(S + "C3", "1:14");
        Cases.text(S + "C0004<d/>61f", "1:25");
        Cases.text(S + "C0004<d/>61fx", "1:25");
        Cases.text(S + C + " ", "1:26");
        Cases.text(S + C + S + C, "1:26");
        Cases.text(S + C, "0:-1");
    }

    private static void noContent() {
        Cases.text("S1004~0110000" + C, "2:5");
        Cases.text("S1005a~0000000" + C, "2:6");
        Cases.text("S1005a~0200000" + C, "2:6");
        Cases.text("S1006ab~0300000" + C, "2:7");
        Cases.text("S1004a~010000" + C, "2:6");
        Cases.text("S1002a~0000" + C, "2:6");
        Cases.text("S1005a~0x00000" + C, "2:6");
        Cases.text("S1005ax~010000" + C, "2:7");
        Cases.text("S1009a~019~0x90000" + C, "2:10");
        Cases.text(S + "C1004~0110000", "2:18");
        String[] noDigits = {"~0:0", "~1/0", "~01:", "~01/", "~/:0", "~:/0", "~~01", "~ 10", "~1 0", "~01 "};
        for (String reference : noDigits) {
            Cases.text(S + "C1024abcdefghijklmnopqrst" + reference + "0000", "2:38");
        }
        String full = "<d><p>" + "a".repeat(286) + "</p></d>";
        Cases.text(S + Parcels.part("C", 0, full, full), "0:-1");
        Cases.text(S + Parcels.part("C", 0, full + "b", full), "2:318");
        Cases.text(S + Parcels.part("C", 1, full + "b", full), "2:318");
        Cases.text(S + Parcels.part("C", 1, "<d><p>a~019~019~019</p></d>", "<d><p>" + "a".repeat(43) + "</p></d>"), "0:-1");
        String references = "a" + "~019".repeat(21);
        Cases.text(S + Parcels.part("C", 1, references + "~010", "a".repeat(300)), "4:1000");
        Cases.text(S + Parcels.part("C", 1, references + "~010b", "a"), "2:107");
        Cases.text(S + Parcels.part("C", 1, references + "~011", "a"), "2:103");
        Cases.text(S + Parcels.part("C", 1, references + "~010~", "a"), "2:107");
        Cases.text(S + Parcels.part("C", 1, "<d><p>abc~039</p></d>", "<d><p>abcabcabcabcabcab</p></d>"), "0:-1");
        Cases.text(S + Parcels.part("C", 1, "<d><p>~060", "<d><p><d><p"), "4:1011");
        Cases.text(S + Parcels.part("C", 0, "~011", "~011"), "4:1000");
    }

    private static void wrongCheck() {
        String[] wrong = {"3296", "2396", "22a6", "2297", "0000"};
        for (String check : wrong) {
            Cases.text("S0004<t/>" + check + C, "3:9");
        }
        Cases.text(S + "C0004<d/>61f4", "3:22");
        Cases.text(S + "C0000ffff", "4:1000");
        Cases.text(S + "C0000fffe", "3:18");
        Cases.text("S0000ffff" + C, "4:0");
    }

    private static void noElement() {
        Cases.sheet("", "4:0");
        Cases.sheet("t", "4:0");
        Cases.sheet(" <t/>", "4:0");
        Cases.sheet("</t>", "4:1");
        Cases.sheet("<", "4:1");
        Cases.sheet("<T/>", "4:1");
        Cases.sheet("<t", "4:2");
        Cases.sheet("<tt/>", "4:2");
        Cases.sheet("<t/", "4:3");
        Cases.sheet("<t/ >", "4:3");
        Cases.sheet("<t/>>", "4:4");
        Cases.sheet("<t/><t/>", "4:4");
        Cases.sheet("<t></t> ", "4:7");
        Cases.sheet("<t>", "4:3");
        Cases.sheet("<t><", "4:4");
        Cases.sheet("<t></", "4:5");
        Cases.sheet("<t></s>", "4:5");
        Cases.sheet("<t></t", "4:6");
        Cases.sheet("<t></t >", "4:6");
        Cases.body("<d>a>b</d>", "4:1004");
        Cases.body("<d>a&b</d>", "4:1004");
        Cases.body("<d>a~b</d>", "4:1004");
        Cases.body("<d><p></d></p>", "4:1008");
        Cases.body("<d><p /></d>", "4:1006");
        Cases.body("<d><p  y=\"A\"/></d>", "4:1006");
        Cases.body("<d><p Y=\"A\"/></d>", "4:1006");
        Cases.body("<d><p y =\"A\"/></d>", "4:1007");
        Cases.body("<d><p y=A/></d>", "4:1008");
        Cases.body("<d><p y=\"A B\"/></d>", "4:1010");
        Cases.body("<d><p y=\"A-\"/></d>", "4:1010");
        Cases.body("<d><p y=\"A\"y=\"B\"/></d>", "4:1011");
        Cases.body("<d><p y=\"A\" y=\"B\"/></d>", "4:1012");
        Cases.body("<d><p a=\"\" b=\"\" a=\"\"/></d>", "4:1016");
        Cases.body("<d><p y=\"A", "4:1010");
        Cases.body("<d><p y=", "4:1008");
        Cases.body("<d><p y", "4:1007");
        Cases.body("<d><p ", "4:1006");
    }

    private static void manyElements() {
        Cases.body("<d>" + "<p/>".repeat(29) + "</d>", "0:-1");
        Cases.body("<d>" + "<p/>".repeat(30) + "</d>", "4:1119");
        Cases.body("<d>" + "<p/>".repeat(29) + "<", "4:1119");
        Cases.body("<d>" + "<p/>".repeat(29) + "</", "4:1121");
        Cases.body("<d>" + "<p/>".repeat(29) + "<7", "4:1119");
        Cases.sheet("<t>" + "<s/>".repeat(30) + "</t>", "4:119");
        Cases.sheet("<t>" + "<s/>".repeat(29) + "</t>", "5:3");
        String eight = "<d><p>" + "<x>".repeat(6);
        String ends = "</x>".repeat(6) + "</p></d>";
        Cases.body(eight + ends, "0:-1");
        Cases.body(eight + "a" + ends, "0:-1");
        Cases.body(eight + "<x/>" + ends, "4:1024");
        Cases.body(eight + "<", "4:1024");
        Cases.body(eight + "</", "4:1026");
        Cases.body("<d><l><i><l><i><l><i><p>a</p></i></l></i></l></i></l></d>", "0:-1");
        Cases.body("<d><l><i><l><i><l><i><p><x/></p></i></l></i></l></i></l></d>", "4:1024");
    }

    private static void wrongElements() {
        Cases.sheet("<d/>", "5:0");
        Cases.sheet("<s n=\"A\"/>", "5:0");
        Cases.body("<t/>", "5:1000");
        Cases.body("<p/>", "5:1000");
        Cases.sheet("<t n=\"A\"/>", "5:3");
        Cases.sheet("<t>a</t>", "5:3");
        Cases.sheet("<t><t/></t>", "5:3");
        Cases.sheet("<t><s n=\"A\"/> </t>", "5:13");
        Cases.styled("<s/>", "<d/>", "5:3");
        Cases.styled("<s b=\"1\"/>", "<d/>", "5:3");
        Cases.styled("<s n=\"\"/>", "<d/>", "5:6");
        Cases.styled("<s n=\"a\"/>", "<d/>", "5:6");
        Cases.styled("<s n=\"AB\"/>", "<d/>", "5:6");
        Cases.styled("<s n=\"A\" y=\"A\"/>", "<d/>", "5:12");
        Cases.styled("<s n=\"A\" f=\"1\"/>", "<d/>", "5:12");
        Cases.styled("<s n=\"A\" b=\"2\"/>", "<d/>", "5:12");
        Cases.styled("<s n=\"A\" b=\"01\"/>", "<d/>", "5:12");
        Cases.styled("<s n=\"A\" b=\"\"/>", "<d/>", "5:12");
        String[] wrongSizes = {"", "0", "00", "07", "100", "a", "1a", "A1"};
        for (String z : wrongSizes) {
            Cases.styled("<s n=\"A\" z=\"" + z + "\"/>", "<d/>", "5:12");
        }
        String[] sizes = {"1", "9", "10", "99"};
        for (String z : sizes) {
            Cases.styled("<s n=\"A\" z=\"" + z + "\"/>", "<d/>", "0:-1");
        }
        Cases.styled("<s n=\"A\" k=\"10\"/>", "<d/>", "5:12");
        Cases.styled("<s n=\"A\" k=\"k\"/>", "<d/>", "5:12");
        Cases.styled("<s k=\"0\" z=\"5\" b=\"0\" n=\"Z\"/>", "<d/>", "0:-1");
        Cases.styled("<s q=\"\" n=\"1\"/>", "<d/>", "5:6");
        Cases.styled("<s n=\"A\"></s>", "<d/>", "0:-1");
        Cases.styled("<s n=\"A\">q</s>", "<d/>", "5:12");
        Cases.styled("<s>q</s>", "<d/>", "5:3");
        Cases.styled("<s n=\"A\"><s n=\"B\"/></s>", "<d/>", "5:12");
        Cases.styled("<s n=\"A\"><s n=\"B\"/>q</s>", "<d/>", "5:22");
        Cases.body("<d y=\"A\"/>", "5:1003");
        Cases.body("<d> <p/></d>", "5:1003");
        Cases.body("<d><p/>q</d>", "5:1007");
        Cases.body("<d><d/></d>", "5:1003");
        Cases.body("<d><x/></d>", "5:1003");
        Cases.body("<d><i/></d>", "5:1003");
        Cases.body("<d><q/></d>", "5:1003");
        Cases.body("<d><p n=\"A\"/></d>", "5:1006");
        Cases.body("<d><p y=\"a\"/></d>", "5:1006");
        Cases.body("<d><p y=\"\"/></d>", "5:1006");
        Cases.body("<d><p><x y=\"AB\"/></p></d>", "5:1009");
        Cases.body("<d><p><p/></p></d>", "5:1006");
        Cases.body("<d><p><x><l/></x></p></d>", "5:1009");
        Cases.body("<d><l/></d>", "5:1003");
        Cases.body("<d><l></l></d>", "5:1003");
        Cases.body("<d><l><p/></l></d>", "5:1003");
        Cases.body("<d><l><p/><i><p/></i></l></d>", "5:1006");
        Cases.body("<d><l><i><p/></i><l/></l></d>", "5:1017");
        Cases.body("<d><l><i/></l></d>", "5:1006");
        Cases.body("<d><l y=\"A\"><i/></l></d>", "5:1006");
        Cases.body("<d><l> <i/></l></d>", "5:1006");
        Cases.body("<d><l><i><p/></i> </l></d>", "5:1017");
        Cases.body("<d><l><i y=\"A\"><p/></i></l></d>", "5:1009");
        Cases.body("<d><l><i> <p/></i></l></d>", "5:1009");
        Cases.body("<d><l><i><i><p/></i></i></l></d>", "5:1006");
        Cases.body("<d><l><i><i/><p/></i></l></d>", "5:1009");
        Cases.body("<d><l><i><p/></i><i><l><i><p/></i></l></i></l></d>", "0:-1");
    }

    private static void wrongStyles() {
        Cases.styled("<s n=\"A\"/><s n=\"B\"/><s n=\"A\"/>", "<d/>", "6:23");
        Cases.styled("<s n=\"A\" f=\"Z\"/><s n=\"A\"/>", "<d/>", "6:19");
        Cases.styled("<s n=\"B\"/><s n=\"A\" f=\"Z\"/>", "<d/>", "6:13");
        Cases.styled("<s n=\"A\" f=\"A\"/>", "<d/>", "6:3");
        Cases.styled("<s n=\"A\" f=\"A\"/><s n=\"B\" f=\"Z\"/>", "<d/>", "6:19");
        Cases.styled("<s n=\"C\" f=\"A\"/><s n=\"A\" f=\"B\"/><s n=\"B\" f=\"A\"/>", "<d/>", "6:3");
        Cases.styled("<s n=\"C\"/><s n=\"A\" f=\"B\"/><s n=\"B\" f=\"A\"/>", "<d/>", "6:13");
        Cases.styled("<s n=\"A\" f=\"B\"/><s n=\"B\" f=\"C\"/><s n=\"C\"/>", "<d/>", "0:-1");
        Cases.styled("<s n=\"B\"/>", "<d><p y=\"A\"/></d>", "6:1003");
        Cases.styled("<s n=\"B\"/>", "<d><p y=\"B\"><x y=\"C\"/></p></d>", "6:1012");
        Cases.styled("<s n=\"A\" f=\"A\"/>", "<d><p y=\"C\"/></d>", "6:3");
        StringBuilder chain = new StringBuilder();
        for (char name = 'A'; name < 'Q'; name++) {
            chain.append("<s n=\"" + name + "\" f=\"" + (char) (name + 1) + "\"/>");
        }
        Cases.text(Parcels.packed("<t>" + chain + "<s n=\"Q\" k=\"7\"/></t>", "<d><p y=\"A\"/></d>"), "0:-1");
        PaperParcels far = Cases.with(chain + "<s n=\"Q\" k=\"7\"/>", "<d><p y=\"A\"/></d>");
        Check.due("look from far above", far.look(0, 1, 2), 7);
        Cases.text(Parcels.packed("<t>" + chain + "<s n=\"Q\" f=\"P\"/></t>", "<d><p y=\"A\"/></d>"), "6:3");
    }

    private static void manyNodes() {
        Cases.body("<d>" + "<p>a</p>".repeat(19) + "<p/></d>", "0:-1");
        Check.due("forty nodes", Cases.with("", "<d>" + "<p>a</p>".repeat(19) + "<p/></d>").nodes(0), 40);
        Cases.body("<d>" + "<p>a</p>".repeat(20) + "</d>", "7:0");
        Cases.body("<d>" + "<p>a</p>".repeat(19) + "<p/><p/></d>", "7:0");
        String letters = "a<x y=\"A\">b</x>".repeat(19);
        Cases.styled("<s n=\"A\" b=\"1\"/>", "<d><p>" + letters + "</p></d>", "0:-1");
        Cases.styled("<s n=\"A\" b=\"1\"/>", "<d><p>" + letters + "a</p></d>", "7:0");
        Cases.styled("<s n=\"A\" b=\"0\"/>", "<d><p>" + letters + "a</p></d>", "0:-1");
    }

    private static void firstOfSeveral() {
        Cases.text("S1004~0110000" + C + "x", "1:" + (13 + C.length()));
        Cases.text("S1004~0110000C1004~0110000", "2:5");
        Cases.text("S0004<t/>0000C1004~0110000", "3:9");
        Cases.text(S + "C1004~0110000", "2:18");
        Cases.text(Parcels.plain("<t>", "<d"), "4:3");
        Cases.text(Parcels.plain("<d/>", "<d"), "4:1002");
        Cases.text(Parcels.plain("<d/>", "<t/>"), "5:0");
        Cases.text(Parcels.plain("<t><s n=\"A\"/><s n=\"A\"/></t>", "<t/>"), "5:1000");
        Cases.text(Parcels.plain("<t><s n=\"A\"/><s n=\"A\"/></t>", "<d><p y=\"B\"/></d>"), "6:13");
        Cases.text(Parcels.plain("<t/>", "<d>" + "<p>a</p>".repeat(20) + "<p y=\"B\"/></d>"), "6:1163");
        Cases.text(Parcels.plain("<t><s n=\"A\"/><s n=\"1\"/></t>", "<d/>"), "5:16");
        Cases.text("S0004<t/>0000" + Parcels.part("C", 0, "<d", "<d"), "3:9");
    }

    private static void whatStays() {
        PaperParcels x = new PaperParcels();
        Check.due("good read", Parcels.read(x, 0, S + Parcels.part("C", 0, "<d><p/></d>", "<d><p/></d>")), "0:-1");
        String text = Parcels.text(x);
        Check.due("the text stays", x.read(1) + text, "0" + S + Parcels.part("C", 0, "<d><p/></d>", "<d><p/></d>"));
        Check.due("a fault", Parcels.read(x, 0, S + C + "9"), "1:26");
        Check.due("slot after a fault", x.nodes(0), 2);
        Check.due("text after a fault", Parcels.text(x), S + C + "9");
        Check.dueCall("read(2)", () -> x.read(2), Parcels.ILLEGAL_ARGUMENT);
        Check.dueCall("read(-1)", () -> x.read(-1), Parcels.ILLEGAL_ARGUMENT);
        Check.due("place after a read that throws", x.place(), 26);
        Check.due("a wipe leaves the place", x.wipe() + ":" + x.place(), "27:26");
        Check.due("in place of what was there", Parcels.read(x, 0, S + C), "0:-1");
        Check.due("slot 0 anew", x.nodes(0), 1);
        Check.due("slot 1 as it was", x.nodes(1), 2);
    }
}
