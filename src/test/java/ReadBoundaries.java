/** The order of the faults, their places, and the sentences of the promises 6 and 7. */
final class ReadBoundaries {
    private static final String[] SHEETS = {"<t/>", "<t>", "<d/>", "<t><s n=\"A\"/><s n=\"A\"/></t>"};
    private static final String[] SHEET_FAULTS = {"", "4:3", "5:0", "6:13"};
    private static final String[] BODIES = {"<d/>", "<d>", "<t/>", "<d><p y=\"Z\"/></d>",
        "<d>" + "<p>q</p>".repeat(20) + "</d>"};
    private static final String[] BODY_FAULTS = {"", "4:1003", "5:1000", "6:1003", "7:0"};

    private ReadBoundaries() {
    }

    static void run() {
        firstFault();
        placesInContent();
        reading();
        wrongSlots();
        placesTold();
    }

    /** All ways to have faults of several kinds at once. */
    private static void firstFault() {
        Check.says("READING looks for FAULTS in this order; the first one counts, at its PLACE.");
        for (int s = 0; s < SHEETS.length; s++) {
            for (int c = 0; c < BODIES.length; c++) {
                for (int ways = 0; ways < 32; ways++) {
                    String sheet = part("S", SHEETS[s], ways % 2 == 1, ways / 2 % 2 == 1);
                    String body = part("C", BODIES[c], ways / 4 % 2 == 1, ways / 8 % 2 == 1);
                    String text = sheet + body + (ways / 16 == 1 ? "q" : "");
                    Cases.text(text, firstDue(s, c, ways, sheet.length(), body.length()));
                }
            }
        }
    }

    private static String part(String name, String content, boolean noReference, boolean wrongCheck) {
        String data = noReference ? content + "~0" : content;
        String check = Parcels.check(content);
        String digits = wrongCheck ? check.substring(0, 3) + (check.endsWith("0") ? "1" : "0") : check;
        return name + (noReference ? 1 : 0) + String.format("%03d", data.length()) + data + digits;
    }

    private static String firstDue(int s, int c, int ways, int sheetSize, int bodySize) {
        if (ways / 16 == 1) {
            return "1:" + (sheetSize + bodySize);
        }
        if (ways % 2 == 1) {
            return "2:" + (5 + SHEETS[s].length());
        }
        if (ways / 2 % 2 == 1) {
            return "3:" + (5 + SHEETS[s].length());
        }
        if (ways / 4 % 2 == 1) {
            return "2:" + (sheetSize + 5 + BODIES[c].length());
        }
        if (ways / 8 % 2 == 1) {
            return "3:" + (sheetSize + 5 + BODIES[c].length());
        }
        return contentDue(SHEET_FAULTS[s], BODY_FAULTS[c]);
    }

    private static String contentDue(String sheetFault, String bodyFault) {
        if (sheetFault.isEmpty() && bodyFault.isEmpty()) {
            return "0:-1";
        }
        if (sheetFault.isEmpty() || bodyFault.isEmpty()) {
            return sheetFault + bodyFault;
        }
        return bodyFault.charAt(0) < sheetFault.charAt(0) ? bodyFault : sheetFault;
    }

    private static void placesInContent() {
        Check.says("Then for S, and then for C, with places in the content from 0 on, and for C 1000 more (so for 5 and"
                + " 6, too):");
        Cases.sheet("", "4:0");
        Cases.body("", "4:1000");
        Cases.sheet("<q/>", "5:0");
        Cases.body("<q/>", "5:1000");
        Cases.styled("<s n=\"A\" f=\"A\"/>", "<d/>", "6:3");
        Cases.body("<d><p y=\"A\"/></d>", "6:1003");
        String sheet = "<t>" + "q".repeat(296);
        String body = "<d>" + "q".repeat(296);
        Cases.sheet(sheet, "4:299");
        Cases.sheet(sheet + "q", "4:300");
        Cases.sheet(sheet + "&", "4:299");
        Cases.body(body, "4:1299");
        Cases.body(body + "q", "4:1300");
        Cases.body(body + "&", "4:1299");
        String packed = "<d><p>q~019</p>&</d>";
        Cases.text(Cases.S + Parcels.part("C", 1, packed, "<d><p>" + "q".repeat(15) + "</p>&</d>"), "4:1025");
        String unpackedSheet = "<t>" + "q".repeat(15) + "&";
        Cases.text(Parcels.part("S", 1, "<t>q~019&", unpackedSheet) + Cases.C, "4:18");
    }

    private static void reading() {
        Check.says("Reads the text, which stays, into slot 0 or 1, in place of what was there: 0; or the fault, and then"
                + " the slot stays as it was.");
        String one = Parcels.plain("<t/>", "<d><p>q</p></d>");
        String two = Cases.fitting(Cases.STYLE, "<d><p y=\"A\"/><l><i><p>abc</p></i></l></d>");
        for (int s = 0; s < 2; s++) {
            int slot = s;
            PaperParcels x = new PaperParcels();
            Check.due("one", Parcels.read(x, slot, one) + Parcels.text(x), "0:-1" + one);
            Check.due("one's nodes", x.nodes(slot) + " " + x.nodes(1 - slot) + " " + x.nodes(2), "3 0 0");
            Check.due("again, from the text that stays", x.read(slot) + " " + x.read(1 - slot), "0 0");
            Check.due("both", Cases.shortForm(x, 0), Cases.shortForm(x, 1));
            Check.due("two", Parcels.read(x, slot, two), "0:-1");
            String form = Cases.shortForm(x, slot);
            Check.due("two in place of one", form, "S P0/1,10,0 L0 I2 P3/0,10,0 R4/0,10,0=abc");
            Check.due("the other slot", Cases.shortForm(x, 1 - slot), "S P0/0,10,0 R1/0,10,0=q");
            String[] faults = {"1", "2", "3", "4", "5", "6", "7"};
            String[] texts = {one + "q", "S1002~00000" + Cases.C, one.substring(0, one.length() - 4) + "0000",
                Parcels.plain("<t/>", "<d"), Parcels.plain("<t/>", "<t/>"), Parcels.plain("<t/>", BODIES[3]),
                Parcels.plain("<t/>", BODIES[4])};
            for (int i = 0; i < texts.length; i++) {
                Check.due("fault", Parcels.read(x, slot, texts[i]).substring(0, 1), faults[i]);
                Check.due("the slot after it", Cases.shortForm(x, slot), form);
                Check.due("the text after it", Parcels.text(x), texts[i]);
            }
            Check.due("one in place of two", Parcels.read(x, slot, one), "0:-1");
            Check.due("nothing of two is left", Cases.shortForm(x, slot), "S P0/0,10,0 R1/0,10,0=q");
            Check.dueCall("no node of two", () -> x.kind(slot, 3), Parcels.OUT_OF_BOUNDS);
        }
        nothingIsLeft();
        PaperParcels empty = new PaperParcels();
        Check.due("a fault", Parcels.read(empty, 0, one + "q") + " " + empty.nodes(0), "1:37 0");
    }

    /** Texts one after another whose elements, attributes and styles would do harm if they were left. */
    private static void nothingIsLeft() {
        String[] sheets = {"<t><s n=\"A\"/><s n=\"B\"/></t>", "<t><s z=\"5\" n=\"A\"/></t>", "<t/>",
            "<t><s n=\"A\" f=\"B\"/><s n=\"B\" f=\"A\"/></t>", "<t><s b=\"1\" z=\"5\" n=\"A\"/></t>",
            "<t><s n=\"B\" f=\"B\"/></t>", "<t><s n=\"A\"/></t>"};
        String[] bodies = {"<d><p y=\"B\"/><p/></d>", "<d><p y=\"A\">q</p></d>", "<d/>", "<d/>", "<d><p y=\"B\"/></d>",
            "<d/>", "<d><l><i><p>q</p></i></l></d>"};
        String[] wants = {"0:-1", "0:-1", "0:-1", "6:3", "6:1003", "6:3", "0:-1"};
        for (int first = 0; first < sheets.length; first++) {
            for (int second = 0; second < sheets.length; second++) {
                PaperParcels x = new PaperParcels();
                Parcels.read(x, 0, Parcels.plain(sheets[first], bodies[first]));
                String text = Parcels.plain(sheets[second], bodies[second]);
                Check.due("read of " + text + " after another", Parcels.read(x, 0, text), wants[second]);
            }
        }
    }

    private static void wrongSlots() {
        Check.says("IllegalArgumentException: slot isn't 0 or 1.");
        int[] slots = {Integer.MIN_VALUE, -2, -1, 2, 3, Integer.MAX_VALUE};
        String[] texts = {"", "S", Cases.S + Cases.C};
        for (String text : texts) {
            for (int slot : slots) {
                PaperParcels x = new PaperParcels();
                Parcels.rewrite(x, text);
                Check.dueCall("read(" + slot + ")", () -> x.read(slot), Parcels.ILLEGAL_ARGUMENT);
                Check.due("nothing is read", x.nodes(0) + " " + x.nodes(1) + " " + x.nodes(2) + " " + x.place(),
                        "0 0 0 -1");
                Check.due("the text", Parcels.text(x), text);
            }
        }
    }

    private static void placesTold() {
        Check.says("The place of the fault that the latest read() answered (one that throws counts for nothing); NONE"
                + " when it answered 0, or there was none.");
        PaperParcels x = new PaperParcels();
        Check.due("before any read", x.place(), PaperParcels.NONE);
        Check.dueCall("a read that throws", () -> x.read(2), Parcels.ILLEGAL_ARGUMENT);
        Check.due("after it", x.place(), -1);
        Check.due("a fault at place 0", x.read(0) + ":" + x.place(), "1:0");
        Check.due("asked again", x.place(), 0);
        Parcels.rewrite(x, "S7");
        Check.due("before it is read", x.place(), 0);
        Check.due("a later fault", x.read(1) + ":" + x.place(), "1:1");
        Check.dueCall("a read that throws", () -> x.read(-1), Parcels.ILLEGAL_ARGUMENT);
        Check.due("after it", x.place(), 1);
        Check.due("a read without a fault", Parcels.read(x, 0, Cases.S + Cases.C), "0:-1");
        Check.dueCall("a read that throws", () -> x.read(2), Parcels.ILLEGAL_ARGUMENT);
        Check.due("after it", x.place(), -1);
        x.read(1);
        Check.due("a fault in C", Parcels.read(x, 0, Parcels.plain("<t/>", "<d")), "4:1002");
        x.compare();
        x.apply(0);
        x.emit(0, 1);
        x.wipe();
        x.write('q');
        Check.due("other calls leave it", x.place(), 1002);
        Check.due("a fault of too many nodes", Parcels.read(x, 0, Parcels.plain("<t/>", BODIES[4])), "7:0");
    }
}
