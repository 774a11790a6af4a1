/** The sentences of elements and attributes, and the fault 4. */
final class ElementBoundaries {
    private static final String ALL_LETTERS = "abcdefghijklmnopqrstuvwxyz";

    private ElementBoundaries() {
    }

    static void run() {
        oneElement();
        elementForms();
        lettersInElements();
        attributeForms();
        attributeLetters();
        values();
        manyElements();
        deepElements();
        directLetters();
        noElements();
        lastBegins();
    }

    private static boolean isSmall(char sign) {
        return ALL_LETTERS.indexOf(sign) >= 0;
    }

    private static boolean isOfValue(char sign) {
        return isSmall(sign) || sign >= '0' && sign <= '9' || sign >= 'A' && sign <= 'Z';
    }

    private static void oneElement() {
        Check.says("THE CONTENT of a part is one ELEMENT, nothing else.");
        Cases.sheet("", "4:0");
        Cases.sheet("<t/>", "0:-1");
        Cases.sheet("<t></t>", "0:-1");
        Cases.sheet("<t/><t/>", "4:4");
        Cases.sheet("<t></t><t></t>", "4:7");
        Cases.body("", "4:1000");
        Cases.body("<d/>", "0:-1");
        Cases.body("<d/><d/>", "4:1004");
        Cases.body("<d></d></d>", "4:1007");
        for (char sign = 32; sign < 127; sign++) {
            Cases.sheet(sign + "", sign == '<' ? "4:1" : "4:0");
            Cases.sheet(sign + "<t/>", sign == '<' ? "4:1" : "4:0");
            Cases.sheet("<t/>" + sign, "4:4");
            Cases.sheet("<t></t>" + sign, "4:7");
            Cases.body(sign + "<d/>", sign == '<' ? "4:1001" : "4:1000");
            Cases.body("<d/>" + sign, "4:1004");
        }
    }

    private static void elementForms() {
        Check.says("An element is <, its KIND (a letter a .. z), ATTRIBUTES, and then either / and >, or >, what is IN it"
                + " (elements, and characters that are not < > & ~, in any order), <, /, the same kind, >.");
        for (char sign = 32; sign < 127; sign++) {
            String kindIn = isSmall(sign) ? sign == 'p' ? "0:-1" : "5:1003" : "4:1004";
            Cases.body("<d><" + sign + "/></d>", sign == '/' ? "4:1005" : kindIn);
            Cases.body("<d><" + sign + "></" + sign + "></d>", sign == '/' ? "4:1005" : kindIn);
            Cases.body("<" + sign + "/>", isSmall(sign) ? sign == 'd' ? "0:-1" : "5:1000" : "4:1001");
            Cases.body("<d><p></" + sign + "></d>", sign == 'p' ? "0:-1" : "4:1008");
            Cases.body("<d><p></p" + sign + "</d>", sign == '>' ? "0:-1" : "4:1009");
            Cases.body("<d><p/" + sign + "</d>", sign == '>' ? "0:-1" : "4:1006");
            Cases.body("<d><p" + sign + "</p></d>", sign == '>' ? "0:-1" : sign == '/' || sign == ' ' ? "4:1006" : "4:1005");
        }
        Cases.body("<d></d>", "0:-1");
        Cases.body("<d/ >", "4:1003");
        Cases.body("<d ></d>", "4:1003");
        Cases.body("<d></ d>", "4:1005");
        Cases.body("<d></d >", "4:1006");
        Cases.body("<d><p></d></p>", "4:1008");
        Cases.body("<d></d/>", "4:1006");
        Cases.body("<d></d y=\"A\">", "4:1006");
        Cases.body("<d><p>a<x/>b<x></x>c</p></d>", "0:-1");
        Cases.body("<d><p><x/>a<x></x></p></d>", "0:-1");
    }

    private static void lettersInElements() {
        for (char sign = 32; sign < 127; sign++) {
            String want = sign == '<' ? "4:1007" : ">&~".indexOf(sign) >= 0 ? "4:1006" : "0:-1";
            Cases.body("<d><p>" + sign + "</p></d>", want);
            Cases.body("<d><p>q" + sign + "q</p></d>", sign == '<' ? "4:1009" : want.replace("1006", "1007"));
            Cases.sheet("<t>" + sign + "</t>", sign == '<' ? "4:4" : ">&~".indexOf(sign) >= 0 ? "4:3" : "5:3");
        }
    }

    private static void attributeForms() {
        Check.says("An attribute is a blank, its letter (a .. z, another one than those before in its element), =, \", a"
                + " VALUE (characters A .. Z a .. z 0 .. 9, as many as there are, also none), \".");
        String form = " y=\"A\"";
        for (int place = 0; place < form.length(); place++) {
            for (char sign = 32; sign < 127; sign++) {
                String other = form.substring(0, place) + sign + form.substring(place + 1);
                Cases.styled(Cases.STYLE, "<d><p" + other + "/></d>", attributeDue(other, place, sign));
            }
            Cases.body("<d><p" + form.substring(0, place) + "/></d>", place == 0 ? "0:-1" : "4:" + (1005 + place));
        }
        Cases.body("<d><p  y=\"A\"/></d>", "4:1006");
        Cases.body("<d><p y =\"A\"/></d>", "4:1007");
        Cases.body("<d><p y= \"A\"/></d>", "4:1008");
        Cases.body("<d><p y=\" A\"/></d>", "4:1009");
        Cases.body("<d><p y=\"A \"/></d>", "4:1010");
        Cases.body("<d><p y=\"A\" /></d>", "4:1012");
        Cases.body("<d><p y=\"A\"></p y=\"A\"></d>", "4:1015");
    }

    /** What is due when one character of the attribute y of a p at place 1003 is another one. */
    private static String attributeDue(String attribute, int place, char sign) {
        boolean same = attribute.equals(" y=\"A\"");
        if (same) {
            return "0:-1";
        }
        switch (place) {
            case 0:
                return sign == '/' ? "4:1006" : sign == '>' ? "4:1012" : "4:1005";
            case 1:
                return isSmall(sign) ? "5:1006" : "4:1006";
            case 2:
                return "4:1007";
            case 3:
                return "4:1008";
            case 4:
                if (sign == '"') {
                    return "4:1010";
                }
                return isOfValue(sign) ? sign >= 'B' && sign <= 'Z' ? "6:1003" : "5:1006" : "4:1009";
            default:
                return isOfValue(sign) ? "4:1011" : "4:1010";
        }
    }

    private static void attributeLetters() {
        StringBuilder all = new StringBuilder();
        for (char letter = 'a'; letter <= 'z'; letter++) {
            Cases.body("<d " + letter + "=\"\"/>", "5:1003");
            Cases.body("<d " + letter + "=\"\" " + letter + "=\"\"/>", "4:1008");
            char next = letter == 'z' ? 'a' : (char) (letter + 1);
            Cases.body("<d " + letter + "=\"\" " + next + "=\"\"/>", "5:1003");
            Cases.body("<d " + letter + "=\"\" " + next + "=\"\" " + letter + "=\"\"/>", "4:1013");
            Cases.body("<d " + letter + "=\"\" " + next + "=\"\" " + next + "=\"\"/>", "4:1013");
            all.append(" " + letter + "=\"\"");
        }
        Cases.body("<d" + all + "/>", "5:1003");
        for (char letter = 'a'; letter <= 'z'; letter++) {
            Cases.body("<d" + all + " " + letter + "=\"\"/>", "4:1133");
        }
        String five = " a=\"\" b=\"\" c=\"\" d=\"\" e=\"\"";
        Cases.body("<d" + all + "><p" + all + "/><p" + five + "/></d>", "5:1003");
        Cases.body("<d" + all + "><p" + all + "/><p" + five.replace("e", "a") + "/></d>", "4:1290");
        Cases.styled(Cases.STYLE, "<d><p y=\"A\"><x y=\"A\"><x y=\"A\"/></x></p><p y=\"A\"/></d>", "0:-1");
        Cases.styled(Cases.STYLE, "<d><p y=\"A\"/><p y=\"A\" y=\"A\"/></d>", "4:1022");
    }

    private static void values() {
        for (char sign = 32; sign < 127; sign++) {
            Cases.body("<d q=\"" + sign + "\"/>", isOfValue(sign) ? "5:1003" : sign == '"' ? "4:1007" : "4:1006");
            Cases.body("<d q=\"a" + sign + "a\"/>", isOfValue(sign) ? "5:1003" : sign == '"' ? "4:1008" : "4:1007");
        }
        int[] sizes = {0, 1, 2, 3, 26, 100, 290, 291};
        for (int size : sizes) {
            Cases.body("<d q=\"" + "Z9".repeat(150).substring(0, size) + "\"/>", "5:1003");
        }
    }

    private static void manyElements() {
        Check.says("There are at most 30 elements,");
        for (int count = 28; count < 33; count++) {
            Cases.body("<d>" + "<p/>".repeat(count - 1) + "</d>", count > 30 ? "4:1119" : "0:-1");
            Cases.body("<d><p>" + "<x/>".repeat(count - 2) + "</p></d>", count > 30 ? "4:1118" : "0:-1");
            Cases.sheet("<t>" + "<s/>".repeat(count - 1) + "</t>", count > 30 ? "4:119" : "5:3");
            String nested = "<l>" + "<i><p/></i>".repeat(14) + "</l>";
            Cases.body("<d>" + nested + "<p/>".repeat(count - 30 < 0 ? 0 : count - 30) + "</d>",
                    count > 30 ? "4:1164" : "0:-1");
        }
        StringBuilder names = new StringBuilder();
        for (char name = 'A'; name <= 'Z'; name++) {
            names.append("<s n=\"" + name + "\"/>");
        }
        Cases.styled(names.toString(), "<d>" + "<p/>".repeat(29) + "</d>", "0:-1");
        Cases.styled(names + "<s n=\"A\"/>", "<d>" + "<p/>".repeat(29) + "</d>", "6:263");
        Cases.styled(names + "<s n=\"A\"/><s n=\"A\"/><s n=\"A\"/>", "<d/>", "6:263");
    }

    private static void deepElements() {
        Check.says("and none is in more than seven others.");
        for (int depth = 5; depth < 10; depth++) {
            int around = depth - 2;
            Cases.body("<d><p>" + "<x>".repeat(around) + "<x/>" + "</x>".repeat(around) + "</p></d>",
                    depth > 7 ? "4:1024" : "0:-1");
            Cases.body("<d><p>" + "<x>".repeat(around) + "<x>q</x>" + "</x>".repeat(around) + "</p></d>",
                    depth > 7 ? "4:1024" : "0:-1");
            Cases.sheet("<t>".repeat(depth) + "<t/>" + "</t>".repeat(depth), depth > 7 ? "4:24" : "5:3");
        }
        String six = "<d><p>" + "<x>".repeat(4);
        Cases.body(six + "<x/><x/><x><x/></x><x/>" + "</x>".repeat(4) + "</p><p/></d>", "0:-1");
        Cases.body(six + "<x/><x/><x><x><x/></x></x>" + "</x>".repeat(4) + "</p></d>", "4:1032");
        Cases.body("<d><l><i><l><i><l><i><p/></i></l></i></l></i></l></d>", "0:-1");
        Cases.body("<d><l><i><l><i><l><i><l><i/></l></i></l></i></l></i></l></d>", "4:1024");
    }

    private static void directLetters() {
        Check.says("A character that stands directly in an element, in none within it, is a LETTER of it.");
        Cases.body("<d><l><i><p>q</p></i></l></d>", "0:-1");
        Cases.body("<d><l><i><p>q</p></i></l>q</d>", "5:1025");
        Cases.body("<d><l><i><p>q</p></i>q</l></d>", "5:1021");
        Cases.body("<d><l><i><p>q</p>q</i></l></d>", "5:1017");
        Cases.body("<d>q<l><i><p>q</p></i></l></d>", "5:1003");
        Cases.body("<d><l>q<i><p>q</p></i></l></d>", "5:1006");
        Cases.body("<d><l><i>q<p>q</p></i></l></d>", "5:1009");
        Cases.plainForm("", "<d><p>a<x>b<x>c</x>d</x>e</p><p>f</p></d>",
                "S P0/0,10,0 R1/0,10,0=abcde P0/0,10,0 R3/0,10,0=f");
        Cases.plainForm(Cases.STYLE, "<d><p>a<x y=\"A\">b<x>c</x>d</x>e</p></d>",
                "S P0/0,10,0 R1/0,10,0=a R1/1,10,0=bcd R1/0,10,0=e");
        Cases.plainForm(Cases.STYLE, "<d><p>a<x>b<x y=\"A\">c</x>d</x>e</p></d>",
                "S P0/0,10,0 R1/0,10,0=ab R1/1,10,0=c R1/0,10,0=de");
    }

    private static void noElements() {
        Check.says("4: it is no such element, as with 1;");
        String[] contents = {"<d/>", "<d></d>", "<d><p y=\"A\">ab<x y=\"A\"/>c</p></d>",
            "<d><l><i><p/></i><i><l><i><p>q</p></i></l></i></l></d>"};
        for (String content : contents) {
            Cases.styled(Cases.STYLE, content, "0:-1");
            for (int size = 0; size < content.length(); size++) {
                Cases.styled(Cases.STYLE, content.substring(0, size), "4:" + (1000 + size));
            }
        }
        String sheet = "<t><s n=\"A\" z=\"99\"/><s n=\"B\" f=\"A\"></s></t>";
        Cases.sheet(sheet, "0:-1");
        for (int size = 0; size < sheet.length(); size++) {
            Cases.sheet(sheet.substring(0, size), "4:" + size);
        }
        Cases.body("<d>&~></d>", "4:1003");
        Cases.body("<d>q~></d>", "4:1004");
        Cases.body("<d>qq></d>", "4:1005");
        Cases.text(Parcels.plain("<t", "<d"), "4:2");
        Cases.text(Parcels.plain("<t>", "<D/>"), "4:3");
        Cases.text(Parcels.plain("<t/>", "<D/>"), "4:1001");
    }

    private static void lastBegins() {
        Check.says("and a < that has no / right behind it can't stand where 30 elements have begun, or in eight elements,"
                + " one in another.");
        String[] behind = {"p/>", "7", "", " ", "<", "p", "p>", ">", "&", "~", "P/>", "</d>"};
        for (String next : behind) {
            Cases.body("<d>" + "<p/>".repeat(29) + "<" + next, "4:1119");
            Cases.sheet("<t>" + "<s/>".repeat(29) + "<" + next, "4:119");
            Cases.body("<d><p>" + "<x>".repeat(6) + "<" + next, "4:1024");
            Cases.sheet("<t>".repeat(8) + "<" + next, "4:24");
        }
        Cases.body("<d>" + "<p/>".repeat(28) + "<7", "4:1116");
        Cases.body("<d>" + "<p/>".repeat(28) + "<", "4:1116");
        Cases.body("<d>" + "<p/>".repeat(28) + "<p", "4:1117");
        Cases.body("<d>" + "<p/>".repeat(29) + "</", "4:1121");
        Cases.body("<d>" + "<p/>".repeat(29) + "</p>", "4:1121");
        Cases.body("<d>" + "<p/>".repeat(29) + "</d", "4:1122");
        Cases.body("<d>" + "<p/>".repeat(29) + "</d>", "0:-1");
        Cases.body("<d>" + "<p/>".repeat(29) + "q</d>", "5:1119");
        Cases.body("<d>" + "<p/>".repeat(29) + "</d><", "4:1123");
        Cases.body("<d><p>" + "<x>".repeat(5) + "<7", "4:1022");
        Cases.body("<d><p>" + "<x>".repeat(5) + "<", "4:1022");
        Cases.body("<d><p>" + "<x>".repeat(6) + "</", "4:1026");
        Cases.body("<d><p>" + "<x>".repeat(6) + "</p>", "4:1026");
        Cases.body("<d><p>" + "<x>".repeat(6) + "</x><x></x><x/>" + "</x>".repeat(5) + "</p></d>", "0:-1");
        Cases.body("<d><p>" + "<x>".repeat(6) + "q" + "</x>".repeat(6) + "</p></d>", "0:-1");
    }
}
