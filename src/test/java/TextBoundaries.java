/** The text's sentences, those of the promises 1 to 5, and how long an object is used. */
final class TextBoundaries {
    private TextBoundaries() {
    }

    static void run() {
        callsOfAnObject();
        sizeAndCharacters();
        newObject();
        writing();
        refusedWrites();
        wiping();
        counting();
        showing();
    }

    private static PaperParcels holding(int size) {
        PaperParcels x = new PaperParcels();
        Check.due(size + " characters", Parcels.write(x, "q".repeat(size)), true);
        return x;
    }

    private static void callsOfAnObject() {
        Check.says("An object is used for at most 512 calls after it has been made; what later calls answer is free.");
        PaperParcels x = new PaperParcels();
        for (int call = 1; call <= 480; call++) {
            Check.due("call " + call, x.write(32 + call % 95), true);
        }
        Check.due("call 481", x.write('q'), false);
        for (int call = 482; call <= 510; call++) {
            Check.due("call " + call, x.character(call - 482), 32 + (call - 481) % 95);
        }
        Check.due("call 511", x.length(), 480);
        Check.due("call 512", x.wipe(), 480);

        PaperParcels y = new PaperParcels();
        int calls = 0;
        for (int turn = 0; turn < 128; turn++) {
            Check.due("call " + ++calls, y.write(turn % 95 + 32), true);
            Check.due("call " + ++calls, y.read(turn % 2), 1);
            Check.due("call " + ++calls, y.place(), turn % 95 + 32 == 'S' ? 1 : 0);
            Check.due("call " + ++calls, y.wipe(), 1);
        }
        Check.due("calls", calls, 512);
    }

    private static void sizeAndCharacters() {
        Check.says("THE TEXT has at most 480 characters 32 .. 126.");
        for (int sign = 1; sign < 256; sign++) {
            boolean fits = sign >= 32 && sign <= 126;
            PaperParcels x = new PaperParcels();
            Check.due("write(" + sign + ")", x.write(sign), fits);
            Check.due("character " + sign, x.length() + " " + x.character(0), fits ? "1 " + sign : "0 -1");
        }
        for (int size = 478; size < 481; size++) {
            PaperParcels x = holding(size);
            Check.due("one more than " + size, x.write('r'), size < 480);
            Check.due("length", x.length(), Math.min(size + 1, 480));
            Check.due("the last one", (char) x.character(x.length() - 1), size < 480 ? 'r' : 'q');
        }
    }

    private static void newObject() {
        Check.says("No text, empty slots.");
        PaperParcels x = new PaperParcels();
        Check.due("length", x.length(), 0);
        Check.due("character 0", x.character(0), -1);
        Check.due("place", x.place(), -1);
        Check.due("steps", x.steps(), 0);
        for (int slot = 0; slot < 3; slot++) {
            Check.due("nodes of slot " + slot, x.nodes(slot), 0);
        }
        Check.due("wipe", x.wipe(), 0);
        Check.due("a text that is empty is read", x.read(0) + " " + x.place() + " " + x.nodes(0), "1 0 0");
        PaperParcels other = Cases.with("", "<d/>");
        PaperParcels later = new PaperParcels();
        Check.due("objects share nothing", later.length() + " " + later.nodes(0) + " " + other.nodes(0), "0 0 1");
    }

    private static void writing() {
        Check.says("Puts the characters in the eight bytes of a long, the lowest first, at the end of the text;"
                + " bytes 0 are left out.");
        written(0x4847464544434241L, "ABCDEFGH");
        written(0x0047464544434241L, "ABCDEFG");
        written(0x4847464544434200L, "BCDEFGH");
        written(0x4847460000434241L, "ABCFGH");
        written(0x4800460044004200L, "BDFH");
        written(0x4100000000000000L, "A");
        written(0x0000000000000041L, "A");
        written(0x7E7E7E7E7E7E7E7EL, "~~~~~~~~");
        written(0x2020202020202020L, "        ");
        written(0, "");
        for (int at = 0; at < 8; at++) {
            written(0x41L << 8 * at, "A");
            written(0x4141414141414141L & ~(0xFFL << 8 * at), "AAAAAAA");
        }
        PaperParcels x = new PaperParcels();
        x.write(0x6261);
        x.write(0x6300640000000000L);
        Check.due("behind one another", Parcels.text(x), "abdc");
    }

    private static void written(long eight, String want) {
        PaperParcels x = new PaperParcels();
        Check.due("write(" + Long.toHexString(eight) + ")", x.write(eight), true);
        Check.due("text of " + Long.toHexString(eight), Parcels.text(x), want);
        Check.due("write(" + Long.toHexString(eight) + ") again", x.write(eight), true);
        Check.due("text of both", Parcels.text(x), want + want);
    }

    private static void refusedWrites() {
        Check.says("False, changing nothing, when another byte is no 32 .. 126, or there would be more than 480.");
        long[] wrong = {1, 31, 127, 128, 255};
        for (long sign : wrong) {
            for (int at = 0; at < 64; at += 8) {
                refused(holding(3), sign << at);
                refused(holding(3), 0x4141414141414141L & ~(0xFFL << at) | sign << at);
                refused(holding(480), sign << at);
            }
        }
        refused(holding(0), -1);
        refused(holding(0), Long.MIN_VALUE);
        refused(holding(0), Long.MAX_VALUE);
        for (int count = 0; count <= 8; count++) {
            long some = count == 0 ? 0 : 0x7A7A7A7A7A7A7A7AL >>> 64 - 8 * count;
            for (int size = 470; size <= 480; size++) {
                PaperParcels x = holding(size);
                if (size + count > 480) {
                    refused(x, some);
                } else {
                    Check.due(count + " behind " + size, x.write(some), true);
                    Check.due("text", Parcels.text(x), "q".repeat(size) + "z".repeat(count));
                }
            }
        }
    }

    private static void refused(PaperParcels x, long eight) {
        String before = Parcels.text(x);
        Check.due("write(" + Long.toHexString(eight) + ") behind " + x.length(), x.write(eight), false);
        Check.due("text after a refused write", Parcels.text(x), before);
    }

    private static void wiping() {
        Check.says("Makes the text empty: how many characters it had.");
        int[] sizes = {0, 1, 2, 8, 9, 479, 480};
        for (int size : sizes) {
            PaperParcels x = holding(size);
            Check.due("wipe of " + size, x.wipe(), size);
            Check.due("after it", x.length() + " " + x.character(0) + " " + x.wipe(), "0 -1 0");
            Check.due("room for 480 again", Parcels.write(x, "z".repeat(480)) + " " + x.length(), "true 480");
        }
        PaperParcels y = Cases.both("", "<p>a</p>", "<p>b</p>");
        y.compare();
        y.apply(1);
        String before = Parcels.state(y);
        String text = Parcels.text(y);
        y.wipe();
        Check.due("all but the text stays", text + Parcels.state(y), before);
    }

    private static void counting() {
        Check.says("How many characters the text has.");
        PaperParcels x = new PaperParcels();
        for (int size = 0; size <= 480; size++) {
            Check.due("length", x.length(), size);
            x.write('a');
        }
        Check.due("after one too many", x.length(), 480);
        x.wipe();
        Check.due("after wipe", x.length(), 0);
    }

    private static void showing() {
        Check.says("Character i of the text; NONE when there is none.");
        PaperParcels x = new PaperParcels();
        Check.due("character 0 of no text", x.character(0), -1);
        x.write(0x636261);
        int[] places = {Integer.MIN_VALUE, -480, -2, -1, 0, 1, 2, 3, 4, 479, 480, 481, Integer.MAX_VALUE};
        int[] wants = {-1, -1, -1, -1, 97, 98, 99, -1, -1, -1, -1, -1, -1};
        for (int i = 0; i < places.length; i++) {
            Check.due("character " + places[i] + " of three", x.character(places[i]), wants[i]);
        }
        PaperParcels full = holding(480);
        Check.due("the last of 480", full.character(479), 113);
        Check.due("behind the last of 480", full.character(480), -1);
        full.wipe();
        full.write('z');
        Check.due("what was wiped out", full.character(0) + " " + full.character(1), "122 -1");
    }
}
