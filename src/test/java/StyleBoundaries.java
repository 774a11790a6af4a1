/** The sentences of styles, and the fault 6. */
final class StyleBoundaries {
    private StyleBoundaries() {
    }

    static void run() {
        parents();
        namesAndEnds();
        usedNames();
        givenValues();
        namesAgain();
        noNames();
        noEnds();
        noUsedNames();
    }

    private static String style(String name, String parent) {
        return "<s n=\"" + name + "\"" + (parent.isEmpty() ? "" : " f=\"" + parent + "\"") + "/>";
    }

    /** Styles told by two letters each, a name and a parent (a . for none). */
    private static String styles(String... pairs) {
        StringBuilder all = new StringBuilder();
        for (String pair : pairs) {
            all.append(style(pair.substring(0, 1), pair.charAt(1) == '.' ? "" : pair.substring(1)));
        }
        return all.toString();
    }

    private static void look(String styles, String want) {
        Cases.plainForm(styles, "<d><p y=\"A\"/></d>", "S P0/" + want);
    }

    private static void parents() {
        Check.says("An s is a STYLE with the NAME n; its PARENT is the style with the name f, if it has f.");
        look("<s n=\"A\"/>", "0,10,0");
        look("<s n=\"A\" f=\"B\"/><s n=\"B\" k=\"5\"/>", "0,10,5");
        look("<s n=\"B\" k=\"5\"/><s n=\"A\" f=\"B\"/>", "0,10,5");
        look("<s n=\"A\"/><s n=\"B\" k=\"5\"/>", "0,10,0");
        look("<s n=\"A\" f=\"Z\"/><s n=\"B\" k=\"5\"/><s n=\"Z\" k=\"6\"/>", "0,10,6");
        look("<s f=\"B\" n=\"A\"/><s k=\"5\" n=\"B\"/>", "0,10,5");
    }

    private static void namesAndEnds() {
        Check.says("Names are all different, each f is the name of a style, and going from a style to parents one comes"
                + " to an end.");
        Cases.styled("", "<d/>", "0:-1");
        Cases.styled(styles("A."), "<d/>", "0:-1");
        Cases.styled(styles("A.", "B."), "<d/>", "0:-1");
        Cases.styled(styles("A.", "A."), "<d/>", "6:13");
        Cases.styled(styles("AB"), "<d/>", "6:3");
        Cases.styled(styles("AB", "B."), "<d/>", "0:-1");
        Cases.styled(styles("BA", "A."), "<d/>", "0:-1");
        Cases.styled(styles("AA"), "<d/>", "6:3");
        Cases.styled(styles("AB", "BA"), "<d/>", "6:3");
        Cases.styled(styles("AB", "BC", "CA"), "<d/>", "6:3");
        Cases.styled(styles("AB", "BC", "C."), "<d/>", "0:-1");
        Cases.styled(styles("AC", "BC", "C."), "<d/>", "0:-1");
        longestChains();
    }

    private static void longestChains() {
        for (int length = 16; length < 19; length++) {
            StringBuilder chain = new StringBuilder();
            for (int i = 0; i < length - 1; i++) {
                chain.append(style("" + (char) ('A' + i), "" + (char) ('B' + i)));
            }
            String last = "" + (char) ('A' + length - 1);
            Cases.styled(chain + "<s n=\"" + last + "\" k=\"7\"/>", "<d/>", "0:-1");
            look(chain + "<s n=\"" + last + "\" k=\"7\"/>", "0,10,7");
            Cases.styled(chain + style(last, "A"), "<d/>", "6:3");
            Cases.styled(chain + style(last, last), "<d/>", "6:3");
        }
        for (char first = 'A'; first <= 'Z'; first++) {
            char next = first == 'Z' ? 'A' : (char) (first + 1);
            Cases.styled(styles(first + ".", "" + next + first), "<d/>", "0:-1");
            Cases.styled(styles("" + first + next, "" + next + first), "<d/>", "6:3");
        }
    }

    private static void usedNames() {
        Check.says("Each y is the name of a style.");
        Cases.styled("", "<d><p y=\"A\"/></d>", "6:1003");
        for (char name = 'A'; name <= 'Z'; name++) {
            char next = name == 'Z' ? 'A' : (char) (name + 1);
            Cases.styled(style("" + name, ""), "<d><p y=\"" + name + "\"/></d>", "0:-1");
            Cases.styled(style("" + name, ""), "<d><p y=\"" + next + "\"/></d>", "6:1003");
            Cases.styled(style("" + name, ""), "<d><p y=\"" + name + "\"><x y=\"" + name + "\"/></p></d>", "0:-1");
            Cases.styled(style("" + name, ""), "<d><p><x y=\"" + next + "\"/></p></d>", "6:1006");
        }
    }

    private static void givenValues() {
        Check.says("It GIVES the values b, z, k that it has; those that it hasn't got are given by its parent, if that"
                + " gives them.");
        String[] sizes = {"1", "2", "9", "10", "11", "98", "99"};
        for (String z : sizes) {
            look("<s n=\"A\" z=\"" + z + "\"/>", "0," + z + ",0");
            look("<s n=\"A\" f=\"B\"/><s n=\"B\" z=\"" + z + "\"/>", "0," + z + ",0");
        }
        for (int k = 0; k < 10; k++) {
            look("<s n=\"A\" k=\"" + k + "\"/>", "0,10," + k);
            look("<s n=\"A\" b=\"1\" z=\"99\" k=\"" + k + "\"/>", "1,99," + k);
            look("<s n=\"A\" b=\"" + k % 2 + "\"/>", k % 2 + ",10,0");
        }
        look("<s n=\"A\" f=\"B\" b=\"0\" k=\"0\"/><s n=\"B\" b=\"1\" z=\"7\" k=\"9\"/>", "0,7,0");
        look("<s n=\"A\" f=\"B\" z=\"10\"/><s n=\"B\" b=\"1\" z=\"7\" k=\"9\"/>", "1,10,9");
        look("<s n=\"A\" f=\"B\"/><s n=\"B\" f=\"C\" b=\"1\"/><s n=\"C\" b=\"0\" k=\"3\"/>", "1,10,3");
        look("<s n=\"A\" f=\"B\"/><s n=\"B\" f=\"C\" z=\"2\"/><s n=\"C\" f=\"D\" k=\"3\"/><s n=\"D\" b=\"1\" k=\"4\"/>",
                "1,2,3");
        look("<s n=\"A\" b=\"1\"/><s n=\"B\" f=\"A\" k=\"9\"/>", "1,10,0");
    }

    private static void namesAgain() {
        Check.says("6: at the < of the first style with the name of one before;");
        Cases.styled(styles("A.", "B.", "A."), "<d/>", "6:23");
        Cases.styled(styles("A.", "B.", "B.", "A."), "<d/>", "6:23");
        Cases.styled(styles("A.", "B.", "A.", "B."), "<d/>", "6:23");
        Cases.styled(styles("A.", "A.", "A."), "<d/>", "6:13");
        Cases.styled(styles("A.", "AZ"), "<d/>", "6:13");
        Cases.styled(styles("AZ", "AZ"), "<d/>", "6:19");
        Cases.styled(styles("AA", "BB", "A."), "<d/>", "6:35");
        Cases.styled(styles("Z.", "Y.", "Z."), "<d><p y=\"A\"/></d>", "6:23");
    }

    private static void noNames() {
        Check.says("else of the first one whose f is no name;");
        Cases.styled(styles("A.", "BZ", "CY"), "<d/>", "6:13");
        Cases.styled(styles("AB", "B.", "CZ"), "<d/>", "6:29");
        Cases.styled(styles("AA", "BZ"), "<d/>", "6:19");
        Cases.styled(styles("AB", "BA", "CD", "D."), "<d/>", "6:3");
        Cases.styled(styles("AB", "BA", "CD", "DE"), "<d/>", "6:51");
        Cases.styled(styles("AZ"), "<d><p y=\"Q\"/></d>", "6:3");
        for (char parent = 'A'; parent <= 'Z'; parent++) {
            Cases.styled(styles("M.", "N" + parent), "<d/>", parent == 'M' ? "0:-1" : "6:13");
        }
    }

    private static void noEnds() {
        Check.says("else of the first one from which one comes to no end;");
        Cases.styled(styles("A.", "BB"), "<d/>", "6:13");
        Cases.styled(styles("AB", "BB"), "<d/>", "6:3");
        Cases.styled(styles("BA", "A.", "CD", "DC"), "<d/>", "6:29");
        Cases.styled(styles("AB", "BC", "CB"), "<d/>", "6:3");
        Cases.styled(styles("D.", "BC", "CB", "AB"), "<d/>", "6:13");
        Cases.styled(styles("AA"), "<d><p y=\"Q\"/></d>", "6:3");
        Cases.styled(styles("A.", "BA", "CB", "DC"), "<d/>", "0:-1");
    }

    private static void noUsedNames() {
        Check.says("else of the first element with a y that is no name.");
        Cases.styled("", "<d><p y=\"A\"/><p y=\"B\"/></d>", "6:1003");
        Cases.styled(styles("A."), "<d><p y=\"A\"/><p y=\"B\"/></d>", "6:1013");
        Cases.styled(styles("A."), "<d><p y=\"A\"><x y=\"B\"/></p><p y=\"C\"/></d>", "6:1012");
        Cases.styled(styles("A."), "<d><p y=\"A\"><x y=\"A\"><x y=\"B\"/></x></p></d>", "6:1021");
        Cases.styled(styles("A."), "<d><l><i><p y=\"Z\"/></i></l></d>", "6:1009");
        Cases.styled(styles("BA", "A."), "<d><p y=\"A\"/><p y=\"B\"/></d>", "0:-1");
        Cases.styled(styles("A."), "<d>" + "<p/>".repeat(28) + "<p y=\"B\"/></d>", "6:1115");
        Cases.styled(styles("A."), "<d>" + "<p>q</p>".repeat(20) + "<p y=\"B\"/></d>", "6:1163");
    }
}
