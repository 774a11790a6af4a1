/** The sentences of packages, parts, data and checks, and the faults 1 to 3. */
final class PartBoundaries {
    private static final String S = Cases.S;
    private static final String C = Cases.C;
    private static final String HEX = "0123456789abcdef";

    private PartBoundaries() {
    }

    static void run() {
        twoParts();
        headers();
        counts();
        checkDigits();
        contentSizes();
        charactersForThemselves();
        references();
        checkNumbers();
        firstPlaces();
        noReferences();
        tooMuchContent();
        wrongChecks();
        orderOfParts();
    }

    private static void twoParts() {
        Check.says("A PACKAGE is a text of two PARTS, S and behind it C, and nothing else.");
        Cases.text("", "1:0");
        Cases.text(S, "1:13");
        Cases.text(C, "1:0");
        Cases.text(S + C, "0:-1");
        Cases.text(C + S, "1:0");
        Cases.text(S + S, "1:13");
        Cases.text(S + C + C, "1:26");
        Cases.text(S + C + S, "1:26");
        Cases.text(" " + S + C, "1:0");
        Cases.text(S + " " + C, "1:13");
        for (char sign = 32; sign < 127; sign++) {
            Cases.text(S + C + sign, "1:26");
        }
        String whole = Cases.fitting(Cases.STYLE, "<d><p y=\"A\">ab</p></d>");
        Cases.text(whole, "0:-1");
        for (int size = 0; size < whole.length(); size++) {
            Cases.text(whole.substring(0, size), "1:" + size);
        }
        StringBuilder styles = new StringBuilder();
        for (char name = 'A'; name < 'O'; name++) {
            styles.append("<s n=\"" + name + "\"" + (name < 'F' ? "></s>" : "/>"));
        }
        String longest = Parcels.plain("<t>" + styles + "</t>", "<d><p>" + "q".repeat(286) + "</p></d>");
        Check.due("a package can be as long as a text", longest.length(), 480);
        Cases.text(longest, "0:-1");
    }

    private static void headers() {
        Check.says("A part is its NAME (S, or C), its METHOD (0 or 1), three digits: how many characters its DATA have,"
                + " these characters, and its CHECK: four digits 0 .. 9 a .. f.");
        for (char sign = 32; sign < 127; sign++) {
            Cases.text(at(S + C, 0, sign), sign == 'S' ? "0:-1" : "1:0");
            Cases.text(at(S + C, 13, sign), sign == 'C' ? "0:-1" : "1:13");
            boolean isMethod = sign == '0' || sign == '1';
            Cases.text(at(S + C, 1, sign), isMethod ? "0:-1" : "1:1");
            Cases.text(at(S + C, 14, sign), isMethod ? "0:-1" : "1:14");
            for (int digit = 2; digit < 5 && (sign < '0' || sign > '9'); digit++) {
                Cases.text(at(S + C, digit, sign), "1:" + digit);
                Cases.text(at(S + C, 13 + digit, sign), "1:" + (13 + digit));
            }
        }
    }

    private static String at(String text, int place, char sign) {
        return text.substring(0, place) + sign + text.substring(place + 1);
    }

    private static void counts() {
        Cases.text("S0003<t/>2296" + C, "1:8");
        Cases.text("S0004<t/>2296" + C, "0:-1");
        Cases.text("S0005<t/>2296" + C, "1:13");
        Cases.text(S + "C0003<d/>61f5", "1:21");
        Cases.text(S + "C0004<d/>61f5", "0:-1");
        Cases.text(S + "C0005<d/>61f5", "1:26");
        Cases.text("S0000ffff" + C, "4:0");
        Cases.text("S0001 c592" + C, "4:0");
        Cases.text(S + "C0000ffff", "4:1000");
        Cases.text("S0999<t/>2296" + C, "1:26");
        Cases.text("S0475" + "q".repeat(475), "1:480");
        Cases.text("S0471" + "q".repeat(471) + "0000", "1:480");
        Cases.text("S0472" + "q".repeat(472) + "000", "1:480");
        String[] sizes = {"009", "010", "099", "100", "101", "199", "200"};
        for (String size : sizes) {
            String content = "<t>" + "q".repeat(Integer.parseInt(size) - 7) + "</t>";
            Cases.text("S0" + size + content + Parcels.check(content) + C, content.length() == 7 ? "0:-1" : "5:3");
        }
    }

    private static void checkDigits() {
        for (char sign = 32; sign < 127; sign++) {
            for (int digit = 0; digit < 4; digit++) {
                boolean isDigit = HEX.indexOf(sign) >= 0;
                String inS = at(S + C, 9 + digit, sign);
                String inC = at(S + C, 22 + digit, sign);
                Cases.text(inS, inS.equals(S + C) ? "0:-1" : isDigit ? "3:9" : "1:" + (9 + digit));
                Cases.text(inC, inC.equals(S + C) ? "0:-1" : isDigit ? "3:22" : "1:" + (22 + digit));
            }
        }
        Cases.text("S0004<t/>229" + C, "1:12");
        Cases.text("S0004<t/>22960" + C, "1:13");
        Cases.text(S + "C0004<d/>61f", "1:25");
        Cases.text(S + "C0004<d/>61f50", "1:26");
    }

    private static void contentSizes() {
        Check.says("Data UNPACK to CONTENT of at most 300 characters:");
        for (int method = 0; method < 2; method++) {
            for (int size = 298; size < 303; size++) {
                String s = "<t>" + "q".repeat(size - 7) + "</t>";
                String c = "<d><p>" + "q".repeat(size - 14) + "</p></d>";
                Cases.text(Parcels.part("S", method, s, s) + C, size > 300 ? "2:305" : "5:3");
                Cases.text(S + Parcels.part("C", method, c, c), size > 300 ? "2:318" : "0:-1");
            }
        }
        Cases.text("S1000ffff" + C, "4:0");
        Cases.text("S0000ffff" + C, "4:0");
        String most = "q".repeat(462);
        Cases.text("S0462" + most + "0000C0000", "1:476");
        Cases.text("S0462" + most + "0000C0000ffff", "2:305");
    }

    private static void charactersForThemselves() {
        Check.says("by method 0 they are it; by method 1 from the first on, a ~ with three digits d e g behind it stands"
                + " for a REFERENCE, every other character for itself.");
        Cases.body("<d><p>q~010</p></d>", "4:1007");
        Cases.text(S + Parcels.part("C", 1, "<d><p>q~010</p></d>", "<d><p>qqqqqq</p></d>"), "0:-1");
        Cases.text(S + Parcels.part("C", 1, "<d><p>q~0100</p></d>", "<d><p>qqqqqq0</p></d>"), "0:-1");
        Cases.text(S + Parcels.part("C", 1, "<d><p>q~01</p></d>", "<d><p>q~01</p></d>"), "2:25");
        Cases.text(S + Parcels.part("C", 1, "<d><p>q~0~010</p></d>", "<d><p>q</p></d>"), "2:25");
        for (char sign = 32; sign < 126; sign++) {
            String content = "<d><p>" + sign + "010</p></d>";
            String want = sign == '<' ? "4:1007" : sign == '>' || sign == '&' ? "4:1006" : "0:-1";
            Cases.text(S + Parcels.part("C", 0, content, content), want);
            Cases.text(S + Parcels.part("C", 1, content, content), want);
        }
    }

    private static void references() {
        Check.says("A reference puts, g + 5 times, the character that stands 10 d + e places before the end of the"
                + " content so far to that end.");
        for (int g = 0; g < 10; g++) {
            unpacked("q~01" + g, "q".repeat(6 + g));
            unpacked("abc~03" + g, "abc" + "abcabcabcabcabc".substring(0, 5 + g));
            unpacked("abc~02" + g, "abc" + "bcbcbcbcbcbcbcbc".substring(0, 5 + g));
        }
        StringBuilder letters = new StringBuilder();
        for (int i = 0; i < 99; i++) {
            letters.append((char) ("<>&~".indexOf(32 + i % 95) >= 0 ? '!' : 32 + i % 95));
        }
        letters.setCharAt(0, 'z');
        for (int back = 1; back < 100; back++) {
            StringBuilder all = new StringBuilder(letters);
            for (int i = 0; i < 14; i++) {
                all.append(all.charAt(all.length() - back));
            }
            unpacked(letters + String.format("~%02d9", back), all.toString());
        }
        unpacked("ab~020~079", "abababa".repeat(3));
        Cases.text(S + Parcels.part("C", 1, "<d><p>~060<p>q", "<d><p><d><p<p>q"), "4:1011");
    }

    private static void unpacked(String data, String letters) {
        String body = "<d><p>" + letters + "</p></d>";
        PaperParcels x = new PaperParcels();
        String text = S + Parcels.part("C", 1, "<d><p>" + data + "</p></d>", body);
        Check.due("read of " + text, Parcels.read(x, 0, text), "0:-1");
        StringBuilder got = new StringBuilder();
        for (int i = 0; i < x.letters(0, 2); i++) {
            got.append((char) x.letter(0, 2, i));
        }
        Check.due("letters of " + data, got, letters);
    }

    /** The numbers are those that are told everywhere for this check (65535 at first, 4129). */
    private static void checkNumbers() {
        Check.says("The check says the number c, the highest four bits first: c is 65535 at first; for each character of"
                + " the content c is exclusive-or'd with the character * 256, and then eight times: c is shifted left by"
                + " one within 16 bits, and exclusive-or'd with 4129 when the bit that fell out was 1.");
        onlyCheck("", 0xffff);
        onlyCheck("A", 0xb915);
        onlyCheck("123456789", 0x29b1);
        onlyCheck("<t/>", 0x2296);
        onlyCheck("<d/>", 0x61f5);
    }

    private static void onlyCheck(String content, int c) {
        String begin = "S0" + String.format("%03d", content.length()) + content;
        String wrong = "3:" + begin.length();
        String right = content.equals("<t/>") ? "0:-1" : content.equals("<d/>") ? "5:0" : "4:0";
        Cases.text(begin + String.format("%04x", c) + C, right);
        for (int bit = 0; bit < 16; bit++) {
            Cases.text(begin + String.format("%04x", c ^ 1 << bit) + C, wrong);
        }
        Cases.text(begin + String.format("%04x", c + 1 & 65535) + C, wrong);
        Cases.text(begin + String.format("%04x", c - 1 & 65535) + C, wrong);
        String turned = new StringBuilder(String.format("%04x", c)).reverse().toString();
        Cases.text(begin + turned + C, content.isEmpty() ? right : wrong);
    }

    private static void firstPlaces() {
        Check.says("1: the text is no two parts: at the first place (from 0) where a character stands that can't stand"
                + " there, or its end if it comes too early.");
        Cases.text("", "1:0");
        Cases.text("s", "1:0");
        Cases.text("S", "1:1");
        Cases.text("s2xyz", "1:0");
        Cases.text("S2xyz", "1:1");
        Cases.text("S1xyz", "1:2");
        Cases.text("S10yz", "1:3");
        Cases.text("S100z", "1:4");
        Cases.text("S1000", "1:5");
        Cases.text("S1000gggg", "1:5");
        Cases.text("S1000fggg", "1:6");
        Cases.text("S1000ffgg", "1:7");
        Cases.text("S1000fffg", "1:8");
        Cases.text("S1000ffff", "1:9");
        Cases.text("S1000ffffc", "1:9");
        Cases.text("S1000ffffC", "1:10");
        Cases.text("S1001 000", "1:9");
        Cases.text("S1002 000", "1:9");
        Cases.text("S1003 000", "1:9");
        Cases.text("S1004 000", "1:9");
        Cases.text("S1005 000", "1:9");
        Cases.text("S1480" + "q".repeat(475), "1:480");
    }

    private static void noReferences() {
        Check.says("2: it doesn't unpack: at the place of a ~ that is no reference (or goes back 0 places, or to before"
                + " the beginning),");
        for (char sign = 32; sign < 127; sign++) {
            boolean isDigit = sign >= '0' && sign <= '9';
            Cases.text(data("q".repeat(99) + "~" + sign + "10"), isDigit ? "3:108" : "2:104");
            Cases.text(data("q".repeat(99) + "~1" + sign + "0"), isDigit ? "3:108" : "2:104");
            Cases.text(data("q".repeat(99) + "~01" + sign), isDigit ? "3:108" : "2:104");
        }
        Cases.text(data("q~"), "2:6");
        Cases.text(data("q~0"), "2:6");
        Cases.text(data("q~01"), "2:6");
        Cases.text(data("q~010"), "3:10");
        for (int g = 0; g < 10; g++) {
            Cases.text(data("q~00" + g), "2:6");
            Cases.text(data("~01" + g), "2:5");
            Cases.text(data("q~01" + g), "3:10");
            Cases.text(data("q~02" + g), "2:6");
        }
        for (int size = 1; size < 100; size++) {
            Cases.text(data("q".repeat(size) + String.format("~%02d0", size)), "3:" + (9 + size));
            if (size < 99) {
                Cases.text(data("q".repeat(size) + String.format("~%02d0", size + 1)), "2:" + (5 + size));
            }
        }
        Cases.text(data("q~010~060"), "3:14");
        Cases.text(data("q~010~070"), "2:10");
        Cases.text(data("q~010~000~"), "2:10");
        Cases.text(S + Parcels.part("C", 1, "q~020", "q"), "2:19");
    }

    /** S with these data and a check that is surely wrong, so that what unpacks is told as 3. */
    private static String data(String data) {
        String text = "S1" + String.format("%03d", data.length()) + data;
        return text + "0000" + C;
    }

    private static void tooMuchContent() {
        Check.says("or of the character or ~ by which there would be more than 300;");
        String most = "q" + "~019".repeat(21);
        for (int g = 0; g < 10; g++) {
            Cases.text(data(most + "~01" + g), g == 0 ? "3:94" : "2:90");
            Cases.text(data(most + "~01" + g + "q"), g == 0 ? "2:94" : "2:90");
            Cases.text(data(most + "~01" + g + "~010"), g == 0 ? "2:94" : "2:90");
        }
        for (int more = 4; more < 7; more++) {
            Cases.text(data(most + "q".repeat(more)), more > 5 ? "2:95" : "3:" + (90 + more));
            Cases.text(data(most + "q".repeat(more) + "~"), "2:" + (90 + Math.min(more, 5)));
        }
        Cases.text(S + Parcels.part("C", 1, most + "~011", "q"), "2:103");
        Cases.text(S + Parcels.part("C", 1, most + "~010q", "q"), "2:107");
        Cases.text(S + Parcels.part("C", 0, "q".repeat(301), "q"), "2:318");
        Cases.text(S + Parcels.part("C", 0, "q".repeat(300), "q"), "3:318");
    }

    private static void wrongChecks() {
        Check.says("3: at the place where the check begins, if one of its four digits is another than it should be.");
        for (int digit = 0; digit < 4; digit++) {
            for (int i = 0; i < 16; i++) {
                char sign = HEX.charAt(i);
                String inS = at(S + C, 9 + digit, sign);
                String inC = at(S + C, 22 + digit, sign);
                Cases.text(inS, inS.equals(S + C) ? "0:-1" : "3:9");
                Cases.text(inC, inC.equals(S + C) ? "0:-1" : "3:22");
            }
        }
        Cases.text(S + Parcels.part("C", 1, "<d><p>q~019</p></d>", "<d><p>q</p></d>"), "3:37");
        Cases.text("S0000fffe" + C, "3:5");
        Cases.text(S + "C0000fffe", "3:18");
    }

    private static void orderOfParts() {
        Check.says("Then for S (2, then 3), and then for C (likewise):");
        for (int s = 0; s < 4; s++) {
            for (int c = 0; c < 4; c++) {
                String sPart = part("S", "<t/>", s);
                int data = s == 0 ? sPart.length() + 5 : 5;
                int way = s == 0 ? c : s;
                String want = way == 0 ? "0:-1" : way == 1 ? "3:" + (data + 4) : "2:" + data;
                Cases.text(sPart + part("C", "<d/>", c), want);
            }
        }
    }

    /** Way 0 has no fault, 1 a wrong check, 2 no reference, 3 both. */
    private static String part(String name, String content, int way) {
        String check = way % 2 == 0 ? Parcels.check(content) : "0000";
        return way < 2 ? name + "0004" + content + check : name + "1002~0" + check;
    }
}
