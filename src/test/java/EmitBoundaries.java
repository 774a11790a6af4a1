/** The sentences of promise 18. */
final class EmitBoundaries {
    private static final String LIST = "<l><i><p/></i></l>";

    private EmitBoundaries() {
    }

    static void run() {
        inPlaceOfTheText();
        neededLooks();
        orderOfLooks();
        elementsOfNodes();
        methods();
        leastReferences();
        longestReferences();
        farthestReferences();
        bestReferences();
        wrongMethods();
        emptySlots();
        manyLooks();
        longContents();
        longTexts();
    }

    private static String style(char name, String look) {
        String[] numbers = look.split(",");
        return "<s n=\"" + name + "\" b=\"" + numbers[0] + "\" z=\"" + numbers[1] + "\" k=\"" + numbers[2] + "\"/>";
    }

    /** What emit writes of slot 0 by method 0, and that reading it gives the same plain form. */
    private static void due(PaperParcels x, String styles, String content) {
        String want = Parcels.plain(styles.isEmpty() ? "<t/>" : "<t>" + styles + "</t>", content);
        Check.dueCall("emit of " + content, () -> x.emit(0, 0), want.length());
        Check.due("what emit wrote", Parcels.text(x), want);
        Check.due("reading it", x.read(1) + Cases.shortForm(x, 1), 0 + Cases.shortForm(x, 0));
    }

    private static void same(String styles, String content) {
        due(Cases.with(styles, content), styles, content);
    }

    private static void inPlaceOfTheText() {
        Check.says("Writes the document in a slot as a package, in place of the text: how many characters that has.");
        for (int s = 0; s < 3; s++) {
            int slot = s;
            PaperParcels x = Cases.both("", "<p>a</p>", "<p>bc</p>");
            x.compare();
            x.apply(1);
            String form = Cases.shortForm(x, 0) + Cases.shortForm(x, 1) + Cases.shortForm(x, 2) + Parcels.script(x);
            String want = Parcels.plain("<t/>", "<d><p>" + (slot == 0 ? "a" : "bc") + "</p></d>");
            int[] sizes = {0, 1, 480};
            for (int size : sizes) {
                Parcels.rewrite(x, "q".repeat(size));
                Check.dueCall("emit", () -> x.emit(slot, 0), want.length());
                Check.due("the text", Parcels.text(x), want);
                Check.due("its length", x.length() + " " + x.character(want.length()), want.length() + " -1");
            }
            Check.due("all else stays",
                    Cases.shortForm(x, 0) + Cases.shortForm(x, 1) + Cases.shortForm(x, 2) + Parcels.script(x), form);
            Check.due("a written text goes on", x.write('q') + Parcels.text(x), "true" + want + "q");
        }
        for (int letters = 85; letters < 287; letters += letters % 100 == 87 ? 97 : 1) {
            same("", "<d><p>" + "q".repeat(letters) + "</p></d>");
        }
        same("", "<d><p>" + "q".repeat(286) + "</p></d>");
        Check.due("the shortest", Cases.with("", "<d/>").emit(0, 0) + " " + Cases.with("", "<d/>").emit(0, 1), "26 26");
    }

    private static void neededLooks() {
        Check.says("S has a style for each look that is NEEDED, in the order in which they are first needed by the nodes:"
                + " by a paragraph with another look than 0, 10, 0, and by a run with another one than its paragraph;");
        String[] looks = {"1,10,0", "0,9,0", "0,11,0", "0,10,1", "0,1,0", "0,99,0", "0,10,9", "1,1,1", "1,99,9"};
        for (String look : looks) {
            String style = style('A', look);
            same(style, "<d><p y=\"A\"/></d>");
            same(style, "<d><p y=\"A\">q</p></d>");
            same(style, "<d><p><x y=\"A\">q</x></p></d>");
            same(style, "<d><p>a<x y=\"A\">q</x>b</p></d>");
            same(style, "<d><l><i><p y=\"A\"/></i></l><p y=\"A\"/></d>");
            same(style + style('B', "0,10,0"), "<d><p y=\"A\"><x y=\"B\">q</x></p></d>");
            due(Cases.with(style, "<d><p>q<x y=\"A\"/></p></d>"), "", "<d><p>q</p></d>");
            due(Cases.with(style, "<d><p y=\"A\"><x y=\"A\">q</x></p></d>"), style, "<d><p y=\"A\">q</p></d>");
        }
        due(Cases.with(style('A', "0,10,0"), "<d><p y=\"A\"/></d>"), "", "<d><p/></d>");
        due(Cases.with(style('A', "0,10,0"), "<d><p y=\"A\">a<x y=\"A\">b</x></p></d>"), "", "<d><p>ab</p></d>");
        due(Cases.with("<s n=\"A\"/>", "<d><p y=\"A\"/></d>"), "", "<d><p/></d>");
        PaperParcels x = Cases.with(style('A', "1,9,1"), "<d><p y=\"A\"/></d>");
        x.emit(0, 0);
        Cases.readInto(x, 0, style('A', "0,9,0"), "<d><p y=\"A\"/></d>");
        due(x, style('A', "0,9,0"), "<d><p y=\"A\"/></d>");
        Cases.readInto(x, 0, "", "<d/>");
        due(x, "", "<d/>");
    }

    private static void orderOfLooks() {
        Check.says("their names are A, B, .. in this order; each has n, b, z, k, in this order, and is closed by / and >.");
        String given = style('Z', "1,9,1") + style('M', "0,99,9") + style('A', "0,10,3");
        due(Cases.with(given, "<d><p y=\"A\"/><p y=\"Z\"/><p y=\"M\"/><p y=\"A\"/></d>"),
                style('A', "0,10,3") + style('B', "1,9,1") + style('C', "0,99,9"),
                "<d><p y=\"A\"/><p y=\"B\"/><p y=\"C\"/><p y=\"A\"/></d>");
        due(Cases.with(given, "<d><p y=\"M\">q<x y=\"Z\">r</x></p><p y=\"Z\"/></d>"),
                style('A', "0,99,9") + style('B', "1,9,1"), "<d><p y=\"A\">q<x y=\"B\">r</x></p><p y=\"B\"/></d>");
        due(Cases.with(given, "<d><p><x y=\"Z\">r</x>s<x y=\"M\">t</x></p><p y=\"M\"/></d>"),
                style('A', "1,9,1") + style('B', "0,99,9"),
                "<d><p><x y=\"A\">r</x>s<x y=\"B\">t</x></p><p y=\"B\"/></d>");
        for (int count = 1; count < 11; count++) {
            StringBuilder styles = new StringBuilder();
            StringBuilder rows = new StringBuilder();
            for (int i = 0; i < count; i++) {
                styles.append(style((char) ('A' + i), "1," + (1 + i * 10) + "," + i));
                rows.append("<p y=\"" + (char) ('A' + i) + "\"/>");
            }
            same(styles.toString(), "<d>" + rows + "</d>");
        }
    }

    private static void elementsOfNodes() {
        Check.says("C has an element for each node in its order; for a run that needs its look an x with y, otherwise its"
                + " letters alone; p has y when it needs its look; elements in which nothing is, t as well, are closed by"
                + " / and >, others by an end of their own.");
        same("", "<d/>");
        same("", "<d><p/></d>");
        same("", "<d><p>q</p></d>");
        same("", "<d>" + LIST + "</d>");
        same("", "<d><l><i><p/>" + LIST + "<p>q</p></i><i><p/></i></l><p/></d>");
        same("", "<d><l><i><l><i><l><i><p>q</p></i></l></i></l></i></l><p/></d>");
        due(Cases.with("", "<d></d>"), "", "<d/>");
        due(Cases.with("<s n=\"A\" b=\"1\"/>", "<d><p></p></d>"), "", "<d><p/></d>");
        due(Cases.with("", "<d><p><x></x><x/></p></d>"), "", "<d><p/></d>");
        due(Cases.with("", "<d><p><x>a</x>b<x><x>c</x></x></p></d>"), "", "<d><p>abc</p></d>");
        String bold = style('A', "1,10,0");
        due(Cases.with(bold, "<d><p><x y=\"A\">a<x>b</x></x><x y=\"A\">c</x></p></d>"), bold,
                "<d><p><x y=\"A\">abc</x></p></d>");
        same(bold, "<d><p y=\"A\"/><p/><p y=\"A\">a</p></d>");
        same(bold, "<d><p>a<x y=\"A\">b</x>c<x y=\"A\">d</x></p></d>");
        emptied("<l><i><p/></i></l>", "<l><i>" + LIST + "</i></l>", 1, "<d><l><i/></l></d>");
        emptied("<p>a</p>", LIST, 1, "<d/>");
        emptied("<p>a</p>", "<p/>", 1, "<d><p/></d>");
    }

    private static void emptied(String first, String second, int steps, String want) {
        PaperParcels x = Cases.both("", first, second);
        x.compare();
        x.apply(steps);
        String text = Parcels.plain("<t/>", want);
        Check.due("emit of slot 2", x.emit(2, 0) + Parcels.text(x), text.length() + text);
    }

    private static void methods() {
        Check.says("Both parts have the method that is told.");
        for (int m = 0; m < 2; m++) {
            PaperParcels x = Cases.with(Cases.STYLE, "<d><p y=\"A\">q</p></d>");
            x.emit(0, m);
            String text = Parcels.text(x);
            Check.due("methods", text.substring(0, 2) + text.substring(text.indexOf('C'), text.indexOf('C') + 2),
                    "S" + m + "C" + m);
            Check.due("reading it", x.read(1) + Cases.shortForm(x, 1), 0 + Cases.shortForm(x, 0));
        }
        PaperParcels y = Cases.with("", "<d><p>" + "q".repeat(30) + "</p></d>");
        y.emit(0, 0);
        Check.due("by method 0 nothing is packed", Parcels.text(y).indexOf('~'), -1);
    }

    private static void packed(String letters, String data) {
        PaperParcels x = Cases.with("", "<d><p>" + letters + "</p></d>");
        String want = "S1004<t/>2296" + Parcels.part("C", 1, "<d><p>" + data + "</p></d>", "<d><p>" + letters + "</p></d>");
        Check.dueCall("emit of " + letters, () -> x.emit(0, 1), want.length());
        Check.due("what emit wrote", Parcels.text(x), want);
        Check.due("reading it", x.read(1) + Cases.shortForm(x, 1), 0 + Cases.shortForm(x, 0));
    }

    private static void leastReferences() {
        Check.says("By method 1, from the first character on: of the places that lie 1 .. 99 before the end of what is"
                + " packed, and from which at least five characters are the same as those to come (reaching into"
                + " themselves, as a reference does), the one with the most of these");
        packed("abcdXabcd", "abcdXabcd");
        packed("abcdeXabcde", "abcdeX~060");
        packed("abcdefXabcdef", "abcdefX~071");
        packed("aaaa", "aaaa");
        packed("aaaaa", "aaaaa");
        packed("aaaaaa", "a~010");
        packed("aaaaaaa", "a~011");
        packed("ababa", "ababa");
        packed("abababa", "ab~020");
        packed("ababab", "ababab");
        packed("abcdabcd", "abcdabcd");
        packed("abcdabcda", "abcd~040");
        PaperParcels whole = Cases.with("", "<d><p>a</p><p>a</p></d>");
        whole.emit(0, 1);
        Check.due("a reference from letters into ends", Parcels.text(whole).contains("<d><p>a</p~085/d>"), true);
    }

    private static void longestReferences() {
        Check.says("(but more than 14 are counted as 14),");
        for (int size = 6; size < 36; size++) {
            int rest = size - 1;
            StringBuilder data = new StringBuilder("a");
            while (rest >= 5) {
                int used = Math.min(rest, 14);
                data.append("~01" + (used - 5));
                rest -= used;
            }
            packed("a".repeat(size), data + "a".repeat(rest));
        }
        String letters = "abcdefghijklmnopqr";
        for (int same = 4; same < 18; same++) {
            String again = letters.substring(0, same);
            String begin = letters.substring(0, same) + "X";
            String back = String.format("~%02d", same + 1);
            String data = same < 5 ? again : same < 15 ? back + (same - 5) : back + 9 + again.substring(14);
            packed(begin + again + "Y", begin + data + "Y");
        }
    }

    /** A letter in the middle that is different each time, so that nothing else is the same. */
    private static void farthestReferences() {
        String middle = "0123456789!@#$%^*()_+-=[]{}|;:',.?ABCDEFGHIJKLMNOPQRSTUVWXYZ`fghijklmnopqrstuvwxyz 13579 086421Q7";
        for (int between = 92; between < 98; between++) {
            String begin = "abcde" + middle.substring(0, between);
            packed(begin + "abcde", begin + (between + 5 <= 99 ? "~" + (between + 5) + "0" : "abcde"));
        }
        for (int between = 1; between < 7; between++) {
            String begin = "abcde" + middle.substring(0, between);
            packed(begin + "abcde", begin + String.format("~%02d0", between + 5));
        }
    }

    private static void bestReferences() {
        Check.says("of several the nearest; it becomes a reference; without any the character stands for itself.");
        packed("abcdeXabcdeYabcde", "abcdeX~060Y~060");
        packed("abcdefXabcdeYabcdef", "abcdefX~070Y~131");
        packed("abcdefXabcdefgYabcdef", "abcdefX~071gY~081");
        packed("abcdeXabcdefYabcdef", "abcdeX~060fY~071");
        String long15 = "abcdefghijklmno";
        packed(long15 + "X" + long15.substring(0, 14) + "Y" + long15, long15 + "X~169Y~159o");
        packed(long15 + "X" + long15.substring(0, 13) + "Y" + long15, long15 + "X~168Y~309o");
        packed(long15 + "X" + long15 + "Y" + long15, long15 + "X~169oY~169o");
        packed("aaaaaaXaaaaaa", "a~010X~071");
        packed("abcdefghijklmnop", "abcdefghijklmnop");
    }

    private static void wrongMethods() {
        Check.says("IllegalArgumentException also when method is not 0 or 1;");
        PaperParcels x = Cases.with("", "<d/>");
        int[] wrong = {Integer.MIN_VALUE, -2, -1, 2, 3, Integer.MAX_VALUE};
        for (int method : wrong) {
            Check.dueCall("method " + method, () -> x.emit(0, method), Parcels.ILLEGAL_ARGUMENT);
            Check.dueCall("method " + method + " of an empty slot", () -> x.emit(1, method), Parcels.ILLEGAL_ARGUMENT);
            Check.dueCall("method " + method + " of no slot", () -> x.emit(3, method), Parcels.ILLEGAL_ARGUMENT);
            Check.due("the text", Parcels.text(x), Cases.S + Cases.C);
        }
        Check.due("0 and 1", x.emit(0, 0) + " " + x.emit(0, 1), "26 26");
    }

    private static void emptySlots() {
        Check.says("IllegalStateException when the slot is empty;");
        PaperParcels x = new PaperParcels();
        Parcels.rewrite(x, "q");
        for (int filled = 0; filled < 4; filled++) {
            for (int s = 0; s < 3; s++) {
                int slot = s;
                boolean empty = slot >= filled;
                Check.dueCall("emit(" + slot + ", 0)", () -> x.emit(slot, 0), empty ? Parcels.ILLEGAL_STATE : 26);
                Check.dueCall("emit(" + slot + ", 1)", () -> x.emit(slot, 1), empty ? Parcels.ILLEGAL_STATE : 26);
            }
            Check.due("the text", x.length(), filled == 0 ? 1 : 26);
            if (filled < 2) {
                Cases.readInto(x, filled, "", "<d/>");
            } else {
                x.compare();
                x.apply(0);
            }
        }
    }

    private static void refused(String what, PaperParcels x, int slot, int method) {
        String before = Parcels.state(x);
        Check.dueCall(what, () -> x.emit(slot, method), Parcels.UNSUPPORTED);
        Check.due("what " + what + " left", Parcels.state(x), before);
    }

    /** Content of more than ten styles is too long, so that 26 looks are refused like 27. */
    private static void manyLooks() {
        Check.says("UnsupportedOperationException when more than 26 looks are needed, content has more than 300 characters,"
                + " or the text would have more than 480.");
        for (int count = 9; count < 13; count++) {
            PaperParcels x = Cases.with(looks(count, 11), "<d>" + uses(count, "/>") + "</d>");
            for (int method = 0; method < 2; method++) {
                if (count > 10) {
                    refused(count + " looks", x, 0, method);
                } else {
                    Check.due(count + " looks", x.emit(0, method) > 0, true);
                }
            }
        }
        for (int count = 12; count < 15; count++) {
            PaperParcels x = new PaperParcels();
            String anchor = "<p>aaaaaaaa</p>";
            Cases.readInto(x, 0, looks(13, 11), "<d>" + anchor + "<l><i>" + uses(13, "/>") + "</i></l></d>");
            Cases.readInto(x, 1, looks(count, 31), "<d>" + uses(count, ">b</p>") + anchor + "</d>");
            x.compare();
            x.apply(count);
            refused(13 + count + " looks", x, 2, 0);
            refused(13 + count + " looks", x, 2, 1);
        }
    }

    private static String looks(int count, int z) {
        StringBuilder all = new StringBuilder();
        for (int i = 0; i < count; i++) {
            all.append("<s n=\"" + (char) ('A' + i) + "\" z=\"" + (z + i) + "\"/>");
        }
        return all.toString();
    }

    private static String uses(int count, String end) {
        StringBuilder all = new StringBuilder();
        for (int i = 0; i < count; i++) {
            all.append("<p y=\"" + (char) ('A' + i) + "\"" + end);
        }
        return all.toString();
    }

    /** Runs with looks of their own within one another take more characters than the x they came from. */
    private static void longContents() {
        String styles = "<s n=\"A\" k=\"1\"/><s n=\"B\" k=\"2\"/>";
        String grows = "a<x y=\"A\">b<x y=\"B\">c</x>d</x>e";
        for (int size = 297; size < 304; size++) {
            PaperParcels x = Cases.with(styles, "<d><p>" + grows + "z".repeat(size - 14 - 44) + "</p></d>");
            int written = 7 + 2 * 29 + 9 + size + 9;
            for (int method = 0; method < 2; method++) {
                if (size > 300) {
                    refused("content of " + size, x, 0, method);
                } else {
                    int most = method == 0 ? written : 200;
                    Check.due("content of " + size, x.emit(0, method) <= most, true);
                    Check.due("length by method 0", method == 1 || x.length() == written, true);
                }
            }
        }
    }

    private static void longTexts() {
        for (int size = 477; size < 484; size++) {
            int letters = size - 297 - 107 - 18 - 7;
            PaperParcels x = Cases.with(looks(10, 11), "<d>" + uses(10, "/>") + "<p>" + "q".repeat(letters) + "</p></d>");
            if (size > 480) {
                refused("a text of " + size, x, 0, 0);
            } else {
                Check.due("a text of " + size, x.emit(0, 0) + " " + x.length() + " " + x.read(1), size + " " + size + " 0");
                Check.due("the same plain form", Cases.shortForm(x, 1), Cases.shortForm(x, 0));
            }
            Check.due("packed it fits", x.emit(0, 1) < 480 && x.read(1) == 0, true);
        }
    }
}
