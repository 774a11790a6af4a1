/** The sentences of what may stand in S and in C, and the fault 5. */
final class RuleBoundaries {
    private RuleBoundaries() {
    }

    static void run() {
        outermostOfS();
        stylesAttributes();
        nothingInStyles();
        outermostOfC();
        paragraphs();
        lists();
        otherAttributes();
        wrongPlaces();
        wrongAttributes();
        missingAttributes();
        wrongLetters();
        missingElements();
        elementByElement();
    }

    private static void outermostOfS() {
        Check.says("Of S: the outermost element is t; in it stand any number of s, and no letters.");
        for (char kind = 'a'; kind <= 'z'; kind++) {
            Cases.sheet("<" + kind + "/>", kind == 't' ? "0:-1" : "5:0");
            Cases.sheet("<" + kind + "></" + kind + ">", kind == 't' ? "0:-1" : "5:0");
            Cases.sheet("<t><" + kind + " n=\"A\"/></t>", kind == 's' ? "0:-1" : "5:3");
        }
        StringBuilder styles = new StringBuilder();
        for (char name = 'A'; name <= 'Z'; name++) {
            Cases.styled(styles.toString(), "<d/>", "0:-1");
            Cases.styled(styles + "q", "<d/>", "5:" + (3 + styles.length()));
            styles.append("<s n=\"" + name + "\"/>");
        }
        Cases.styled(styles.toString(), "<d/>", "0:-1");
        Cases.sheet("<t> </t>", "5:3");
        Cases.sheet("<t>q<s n=\"A\"/></t>", "5:3");
        Cases.sheet("<t><s n=\"A\"/>q<s n=\"B\"/>q</t>", "5:13");
        Cases.sheet("<t></t>", "0:-1");
    }

    private static void value(String letter, String value, boolean isTold) {
        Cases.styled("<s n=\"A\" " + letter + "=\"" + value + "\"/>", "<d/>", isTold ? "0:-1" : "5:12");
    }

    private static void stylesAttributes() {
        Check.says("s has n, a capital letter A .. Z (which it must have), and perhaps f, a capital letter, b, 0 or 1, z,"
                + " 1 .. 99 (without a 0 before it), and k, one digit;");
        for (char sign = '0'; sign <= 'z'; sign++) {
            boolean isCapital = sign >= 'A' && sign <= 'Z';
            boolean isDigit = sign >= '0' && sign <= '9';
            boolean isSmall = sign >= 'a' && sign <= 'z';
            if (isCapital || isDigit || isSmall) {
                Cases.styled("<s n=\"" + sign + "\"/>", "<d/>", isCapital ? "0:-1" : "5:6");
                Cases.styled("<s n=\"" + sign + "A\"/>", "<d/>", "5:6");
                Cases.styled("<s n=\"A" + sign + "\"/>", "<d/>", "5:6");
                String parent = isCapital ? "<s n=\"" + sign + "\"/>" : "<s n=\"B\"/>";
                Cases.styled(parent + "<s n=\"" + (sign == 'A' ? 'C' : 'A') + "\" f=\"" + sign + "\"/>", "<d/>",
                        isCapital ? "0:-1" : "5:22");
                value("f", "A" + sign, false);
                value("b", "" + sign, sign == '0' || sign == '1');
                value("b", "0" + sign, false);
                value("b", sign + "1", false);
                value("z", "" + sign, isDigit && sign != '0');
                value("z", "1" + sign, isDigit);
                value("z", sign + "0", isDigit && sign != '0');
                value("z", "99" + sign, false);
                value("k", "" + sign, isDigit);
                value("k", "0" + sign, false);
                value("k", sign + "0", false);
            }
        }
        String[] letters = {"f", "b", "z", "k"};
        for (String letter : letters) {
            value(letter, "", false);
        }
        for (int z = 0; z < 1000; z += z > 110 ? 89 : 1) {
            value("z", "" + z, z >= 1 && z <= 99);
            value("z", "0" + z, false);
        }
        Cases.styled("<s n=\"\"/>", "<d/>", "5:6");
        Cases.styled("<s/>", "<d/>", "5:3");
        Cases.styled("<s></s>", "<d/>", "5:3");
        Cases.styled("<s n=\"B\"/><s f=\"B\" b=\"1\" z=\"99\" k=\"9\"/>", "<d/>", "5:13");
        Cases.styled("<s n=\"B\"/><s k=\"9\" z=\"99\" b=\"1\" f=\"B\" n=\"A\"/>", "<d/>", "0:-1");
    }

    private static void nothingInStyles() {
        Check.says("nothing is in it.");
        Cases.styled("<s n=\"A\"/>", "<d/>", "0:-1");
        Cases.styled("<s n=\"A\"></s>", "<d/>", "0:-1");
        for (char sign = 32; sign < 127; sign++) {
            if ("<>&~".indexOf(sign) < 0) {
                Cases.styled("<s n=\"A\">" + sign + "</s>", "<d/>", "5:12");
            }
        }
        for (char kind = 'a'; kind <= 'z'; kind++) {
            Cases.styled("<s n=\"A\"><" + kind + " n=\"B\"/></s>", "<d/>", "5:12");
        }
    }

    private static void outermostOfC() {
        Check.says("Of C: the outermost element is d; in it stand any number of p and l, and no letters.");
        String list = "<l><i><p/></i></l>";
        for (char kind = 'a'; kind <= 'z'; kind++) {
            Cases.body("<" + kind + "/>", kind == 'd' ? "0:-1" : "5:1000");
            Cases.body("<d><" + kind + "><i><p/></i></" + kind + "></d>",
                    kind == 'l' ? "0:-1" : kind == 'p' ? "5:1006" : "5:1003");
            Cases.body("<d><" + kind + "/></d>", kind == 'p' ? "0:-1" : "5:1003");
            Cases.body("<d>" + list + "<" + kind + "/></d>", kind == 'p' ? "0:-1" : "5:1021");
        }
        for (int count = 0; count < 30; count++) {
            Cases.body("<d>" + "<p/>".repeat(count) + "</d>", "0:-1");
            if (count < 10) {
                Cases.body("<d>" + list.repeat(count) + "</d>", "0:-1");
                Cases.body("<d>" + (list + "<p/>").repeat(Math.min(count, 7)) + "</d>", "0:-1");
            }
        }
        Cases.body("<d> </d>", "5:1003");
        Cases.body("<d>q<p/></d>", "5:1003");
        Cases.body("<d><p/>q</d>", "5:1007");
        Cases.body("<d><p/>" + list + "q" + list + "</d>", "5:1025");
    }

    private static void paragraphs() {
        Check.says("p and x may have y, a capital letter; in them stand any number of x, and letters.");
        for (char sign = '0'; sign <= 'z'; sign++) {
            boolean isCapital = sign >= 'A' && sign <= 'Z';
            if (isCapital || sign <= '9' || sign >= 'a') {
                String style = isCapital ? "<s n=\"" + sign + "\"/>" : "";
                Cases.styled(style, "<d><p y=\"" + sign + "\"/></d>", isCapital ? "0:-1" : "5:1006");
                Cases.styled(style, "<d><p><x y=\"" + sign + "\"/></p></d>", isCapital ? "0:-1" : "5:1009");
                Cases.styled(style, "<d><p y=\"A" + sign + "\"/></d>", "5:1006");
                Cases.styled(style, "<d><p><x y=\"" + sign + "A\"/></p></d>", "5:1009");
            }
        }
        Cases.body("<d><p y=\"\"/></d>", "5:1006");
        Cases.body("<d><p><x y=\"\"/></p></d>", "5:1009");
        for (char kind = 'a'; kind <= 'z'; kind++) {
            Cases.body("<d><p><" + kind + "/></p></d>", kind == 'x' ? "0:-1" : "5:1006");
            Cases.body("<d><p><x><" + kind + "/></x></p></d>", kind == 'x' ? "0:-1" : "5:1009");
            Cases.body("<d><p>q<x/>q<" + kind + "/></p></d>", kind == 'x' ? "0:-1" : "5:1012");
        }
        for (int count = 0; count < 29; count++) {
            Cases.body("<d><p>" + "<x/>".repeat(count) + "</p></d>", "0:-1");
            Cases.body("<d><p><x>" + "<x/>q".repeat(Math.min(count, 27)) + "</x></p></d>", "0:-1");
        }
        int[] sizes = {0, 1, 2, 285, 286};
        for (int size : sizes) {
            Cases.body("<d><p>" + "q".repeat(size) + "</p></d>", "0:-1");
            Cases.body("<d><p><x>" + "q".repeat(Math.min(size, 279)) + "</x></p></d>", "0:-1");
        }
    }

    private static void lists() {
        Check.says("In l stand one i or more, in i one p or l or more, and no letters in either.");
        for (int items = 0; items < 15; items++) {
            Cases.body("<d><l>" + "<i><p/></i>".repeat(items) + "</l></d>", items == 0 ? "5:1003" : "0:-1");
        }
        for (int rows = 0; rows < 28; rows++) {
            Cases.body("<d><l><i>" + "<p/>".repeat(rows) + "</i></l></d>", rows == 0 ? "5:1006" : "0:-1");
        }
        for (int rows = 0; rows < 9; rows++) {
            Cases.body("<d><l><i>" + "<l><i><p/></i></l>".repeat(rows) + "</i></l></d>", rows == 0 ? "5:1006" : "0:-1");
        }
        Cases.body("<d><l/></d>", "5:1003");
        Cases.body("<d><l><i/></l></d>", "5:1006");
        Cases.body("<d><l><i><p/></i><i/></l></d>", "5:1017");
        Cases.body("<d><l><i><l><i><p/></i></l><p/></i></l></d>", "0:-1");
        for (char kind = 'a'; kind <= 'z'; kind++) {
            Cases.body("<d><l><i><p/></i><" + kind + "><p/></" + kind + "></l></d>", kind == 'i' ? "0:-1" : "5:1017");
            Cases.body("<d><l><i><p/><" + kind + "/></i></l></d>", kind == 'p' ? "0:-1" : "5:1013");
        }
        for (char sign = 32; sign < 127; sign++) {
            if ("<>&~".indexOf(sign) < 0) {
                Cases.body("<d><l>" + sign + "<i><p/></i></l></d>", "5:1006");
                Cases.body("<d><l><i><p/></i>" + sign + "</l></d>", "5:1017");
                Cases.body("<d><l><i>" + sign + "<p/></i></l></d>", "5:1009");
                Cases.body("<d><l><i><p/>" + sign + "</i></l></d>", "5:1013");
            }
        }
    }

    private static void otherAttributes() {
        Check.says("Elements have no attributes but those told here.");
        String[] values = {"", "0", "1", "A", "9"};
        for (char letter = 'a'; letter <= 'z'; letter++) {
            for (String value : values) {
                String attribute = " " + letter + "=\"" + value + "\"";
                Cases.sheet("<t" + attribute + "/>", "5:3");
                Cases.body("<d" + attribute + "/>", "5:1003");
                Cases.body("<d><l" + attribute + "><i><p/></i></l></d>", "5:1006");
                Cases.body("<d><l><i" + attribute + "><p/></i></l></d>", "5:1009");
                boolean isStyle = letter == 'y' && value.equals("A");
                Cases.styled("<s n=\"A\"/>", "<d><p" + attribute + "/></d>", isStyle ? "0:-1" : "5:1006");
                Cases.styled("<s n=\"A\"/>", "<d><p><x" + attribute + "/></p></d>", isStyle ? "0:-1" : "5:1009");
                if ("nfbzk".indexOf(letter) < 0) {
                    Cases.styled("<s n=\"A\"" + attribute + "/>", "<d/>", "5:12");
                }
            }
        }
    }

    private static void wrongPlaces() {
        Check.says("Then for S, and then for C, element by element as they begin, each one for these things in turn:"
                + " 5: at its < if it can't stand where it does;");
        String all = "tsdpxliq";
        for (char around : all.toCharArray()) {
            for (char kind : all.toCharArray()) {
                String element = "<" + around + "><" + kind + "/></" + around + ">";
                Cases.sheet(element, around == 't' ? "5:3" : "5:0");
                if (around != 'd') {
                    Cases.body(element, "5:1000");
                }
            }
        }
        String inOrder = "<d><p><x/></p><l><i><p/><l><i><p/></i></l></i></l></d>";
        Cases.body(inOrder, "0:-1");
        Cases.body("<d><d/></d>", "5:1003");
        Cases.body("<d><p><d/></p></d>", "5:1006");
        Cases.body("<d><p><x><p/></x></p></d>", "5:1009");
        Cases.body("<d><l><i><p/></i><l/></l></d>", "5:1017");
        Cases.body("<d><l><i><p/><i/></i></l></d>", "5:1013");
        Cases.body("<d><l><i><p/><x/></i></l></d>", "5:1013");
        Cases.body("<d><q q=\"\">q</q></d>", "5:1003");
        Cases.body("<d><q><q/></q></d>", "5:1003");
        Cases.sheet("<q q=\"\">q</q>", "5:0");
    }

    private static void wrongAttributes() {
        Check.says("at the letter of the first of its attributes that it may not have, or whose value isn't as told;");
        Cases.styled("<s n=\"A\" q=\"\" b=\"2\"/>", "<d/>", "5:12");
        Cases.styled("<s n=\"A\" b=\"2\" q=\"\"/>", "<d/>", "5:12");
        Cases.styled("<s n=\"A\" b=\"1\" q=\"\"/>", "<d/>", "5:18");
        Cases.styled("<s b=\"2\" n=\"a\"/>", "<d/>", "5:6");
        Cases.styled("<s b=\"0\" n=\"a\"/>", "<d/>", "5:12");
        Cases.styled("<s b=\"0\" z=\"100\" k=\"10\" n=\"A\"/>", "<d/>", "5:12");
        Cases.styled("<s b=\"0\" z=\"99\" k=\"10\" n=\"A\"/>", "<d/>", "5:19");
        Cases.styled("<s b=\"2\"/>", "<d/>", "5:6");
        Cases.styled("<s q=\"\">q</s>", "<d/>", "5:6");
        Cases.body("<d><p q=\"\" y=\"1\"/></d>", "5:1006");
        Cases.body("<d><p y=\"A\" q=\"\"/></d>", "5:1012");
        Cases.body("<d><l q=\"\">q</l></d>", "5:1006");
        Cases.body("<d><l><i q=\"\"/></l></d>", "5:1009");
        Cases.body("<d q=\"\">q<q/></d>", "5:1003");
    }

    private static void missingAttributes() {
        Check.says("at its < if an attribute that it must have isn't there;");
        Cases.styled("<s/>", "<d/>", "5:3");
        Cases.styled("<s b=\"1\" k=\"1\" z=\"1\" f=\"A\"/>", "<d/>", "5:3");
        Cases.styled("<s>q</s>", "<d/>", "5:3");
        Cases.styled("<s><s/></s>", "<d/>", "5:3");
        Cases.styled("<s n=\"A\"/><s/>", "<d/>", "5:13");
        Cases.styled("<s n=\"A\"/><s n=\"B\"/>", "<d/>", "0:-1");
        Cases.body("<d><p/><p><x/></p></d>", "0:-1");
    }

    private static void wrongLetters() {
        Check.says("at the first of its letters if it may have none;");
        Cases.sheet("<t>qq</t>", "5:3");
        Cases.sheet("<t><s n=\"A\"/>q q</t>", "5:13");
        Cases.sheet("<t><s/>q</t>", "5:7");
        Cases.styled("<s n=\"A\">qq</s>q", "<d/>", "5:18");
        Cases.styled("<s n=\"A\"><s n=\"B\"/>qq</s>", "<d/>", "5:22");
        Cases.styled("<s n=\"A\"><s n=\"B\">r</s>qq</s>", "<d/>", "5:26");
        Cases.body("<d>qq</d>", "5:1003");
        Cases.body("<d><q>r</q>q</d>", "5:1011");
        Cases.body("<d><l>q</l></d>", "5:1006");
        Cases.body("<d><l><p>r</p>q</l></d>", "5:1014");
        Cases.body("<d><l><i>q</i></l></d>", "5:1009");
        Cases.body("<d><l><i><l>r</l>q</i></l></d>", "5:1017");
        Cases.body("<d><p>q<x>q</x></p></d>", "0:-1");
    }

    private static void missingElements() {
        Check.says("at its < if it is an l without an i directly in it, or an i with neither p nor l directly in it.");
        Cases.body("<d><l></l></d>", "5:1003");
        Cases.body("<d><l><p/></l></d>", "5:1003");
        Cases.body("<d><l><l><i><p/></i></l></l></d>", "5:1003");
        Cases.body("<d><l><q><i><p/></i></q></l></d>", "5:1003");
        Cases.body("<d><l><i><p/></i></l></d>", "0:-1");
        Cases.body("<d><l><p/><i><p/></i></l></d>", "5:1006");
        Cases.body("<d><l><i></i></l></d>", "5:1006");
        Cases.body("<d><l><i><x/></i></l></d>", "5:1006");
        Cases.body("<d><l><i><i><p/></i></i></l></d>", "5:1006");
        Cases.body("<d><l><i><q><l><i><p/></i></l></q></i></l></d>", "5:1006");
        Cases.body("<d><l><i><x/><p/></i></l></d>", "5:1009");
        Cases.body("<d><l><i><l/></i></l></d>", "5:1009");
        Cases.body("<d><l><i><l><i/></l></i></l></d>", "5:1012");
    }

    private static void elementByElement() {
        Cases.body("<d><l q=\"\"/><q/></d>", "5:1006");
        Cases.body("<d><p q=\"\"><q/></p></d>", "5:1006");
        Cases.body("<d><p><q/></p><p q=\"\"/></d>", "5:1006");
        Cases.body("<d><p/><l><i/></l>q</d>", "5:1018");
        Cases.body("<d><l><q/><i/></l></d>", "5:1006");
        Cases.text(Parcels.plain("<t><s/></t>", "<q/>"), "5:3");
        Cases.text(Parcels.plain("<t><s n=\"A\"/></t>", "<q/>"), "5:1000");
    }
}
