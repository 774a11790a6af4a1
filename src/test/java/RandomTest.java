import java.util.Random;

/** Many documents and broken ones, all answers compared with the model's (promises 6 to 18). */
public final class RandomTest {
    private static final int[] faultsMet = new int[8];
    private static int refusedMet = 0;
    private static int stepsMet = 0;
    private final Random random;

    private RandomTest(long seed) {
        random = new Random(seed);
    }

    public static void main(String[] args) {
        int rounds = args.length > 0 ? Integer.parseInt(args[0]) : 1500;
        int firstSeed = args.length > 1 ? Integer.parseInt(args[1]) : 0;
        for (int seed = firstSeed; seed < firstSeed + rounds; seed++) {
            new RandomTest(seed).round("seed " + seed);
        }
        for (int fault = 0; fault < 8; fault++) {
            Check.due("fault " + fault + " was met", faultsMet[fault] > 0, true);
        }
        Check.due("a package that is too long was met", refusedMet > 0, true);
        Check.due("steps were met", stepsMet > 0, true);
        Check.finish("RandomTest");
    }

    private void round(String name) {
        PaperParcels x = new PaperParcels();
        Model.Node[] slots = new Model.Node[3];
        String s = sheet();
        String c = body();
        for (int turn = 0; turn < 4; turn++) {
            int slot = turn % 2;
            readBoth(name + " turn " + turn, x, slots, slot, packageOf(s, c));
            s = random.nextInt(3) == 0 ? sheet() : s;
            c = random.nextInt(3) == 0 ? body() : edited(c);
        }
        if (slots[0] != null && slots[1] != null) {
            compareBoth(name, x, slots);
        }
        for (int slot = 0; slot < 3; slot++) {
            for (int method = 0; method < 2 && slots[slot] != null; method++) {
                emitBoth(name, x, slots, slot, method);
            }
        }
    }

    private void readBoth(String name, PaperParcels x, Model.Node[] slots, int slot, String text) {
        if (text.length() > 480) {
            return;
        }
        int fault = 0;
        int place = -1;
        Model.Node read = null;
        try {
            read = Model.read(text);
        } catch (Model.Fault f) {
            fault = f.number;
            place = f.place;
        }
        faultsMet[fault]++;
        slots[slot] = fault == 0 ? read : slots[slot];
        Check.due(name + " read of " + text, Parcels.read(x, slot, text), fault + ":" + place);
        Check.due(name + " plain form of " + text, Parcels.describe(x, slot), Model.describe(slots[slot]));
    }

    private void compareBoth(String name, PaperParcels x, Model.Node[] slots) {
        Model.Comparison due = new Model.Comparison(slots[0], slots[1]);
        Check.due(name + " compare", x.compare(), due.cost);
        Check.due(name + " script", Parcels.script(x), due.script());
        stepsMet += due.count();
        for (int n = 0; n <= due.count(); n++) {
            slots[2] = due.apply(n);
            Check.due(name + " apply " + n, x.apply(n), slots[2].all().size());
            Check.due(name + " applied " + n, Parcels.describe(x, 2), Model.describe(slots[2]));
            if (random.nextInt(3) == 0) {
                emitBoth(name, x, slots, 2, random.nextInt(2));
            }
        }
        Check.due(name + " all steps", Parcels.describe(x, 2), Parcels.describe(x, 1));
    }

    private void emitBoth(String name, PaperParcels x, Model.Node[] slots, int slot, int method) {
        String due = Model.emit(slots[slot], method);
        String before = Parcels.text(x);
        refusedMet += due == null ? 1 : 0;
        Check.dueCall(name + " emit", () -> x.emit(slot, method), due == null ? Parcels.UNSUPPORTED : due.length());
        Check.due(name + " emitted", Parcels.text(x), due == null ? before : due);
    }

    private String sheet() {
        StringBuilder all = new StringBuilder();
        int styles = random.nextInt(5);
        for (int i = 0; i < styles; i++) {
            char name = (char) ('A' + (random.nextInt(20) == 0 ? random.nextInt(4) : i));
            all.append("<s n=\"" + name + "\"");
            if (random.nextInt(3) == 0) {
                int parent = random.nextInt(5) == 0 ? random.nextInt(5) : random.nextInt(i + 1) - 1;
                all.append(parent < 0 ? "" : " f=\"" + (char) ('A' + parent) + "\"");
            }
            all.append(random.nextInt(3) == 0 ? " b=\"" + random.nextInt(2) + "\"" : "");
            all.append(random.nextInt(3) == 0 ? " z=\"" + (1 + random.nextInt(random.nextBoolean() ? 99 : 12)) + "\"" : "");
            all.append(random.nextInt(3) == 0 ? " k=\"" + random.nextInt(10) + "\"" : "");
            all.append(random.nextInt(6) == 0 ? "></s>" : "/>");
        }
        return all.length() == 0 && random.nextBoolean() ? "<t/>" : "<t>" + all + "</t>";
    }

    private String body() {
        StringBuilder all = new StringBuilder();
        int rows = random.nextInt(5);
        for (int i = 0; i < rows && all.length() < 260; i++) {
            all.append(block(0));
        }
        if (random.nextInt(12) == 0) {
            all.setLength(0);
            all.append("<p>" + "a<x y=\"A\">b</x>".repeat(10 + random.nextInt(10)) + "</p>");
        }
        if (random.nextInt(12) == 0) {
            all.append((random.nextBoolean() ? "<p/>" : "<p>a</p>").repeat(17 + random.nextInt(15)));
        }
        return all.length() == 0 ? "<d/>" : "<d>" + all + "</d>";
    }

    private String block(int depth) {
        if (random.nextInt(3) > 0 || depth > 6) {
            return "<p" + style() + ">" + letters(depth) + "</p>";
        }
        StringBuilder items = new StringBuilder();
        int count = 1 + random.nextInt(3);
        for (int i = 0; i < count; i++) {
            items.append("<i>" + block(depth + 2));
            items.append(random.nextInt(3) == 0 ? block(depth + 2) : "").append("</i>");
        }
        return "<l>" + items + "</l>";
    }

    private String style() {
        return random.nextInt(3) > 0 ? "" : " y=\"" + (char) ('A' + random.nextInt(random.nextInt(4) == 0 ? 4 : 2)) + "\"";
    }

    private String letters(int depth) {
        StringBuilder all = new StringBuilder();
        int pieces = random.nextInt(4);
        for (int i = 0; i < pieces; i++) {
            if (random.nextInt(3) == 0 && depth < 7) {
                all.append("<x" + style() + ">" + letters(depth + 1) + "</x>");
            } else {
                String[] words = {"a", "ab", "one", "two ", "abcabcabc", "/=\"", " "};
                all.append(words[random.nextInt(words.length)]);
            }
        }
        return all.toString();
    }

    /** A likeness of a body: what lies between two tags of one kind doubled, taken out or put elsewhere. */
    private String edited(String c) {
        String[] kinds = {"p", "i", "l"};
        String kind = kinds[random.nextInt(3)];
        int from = c.indexOf("<" + kind, random.nextInt(c.length()));
        int to = from < 0 ? -1 : c.indexOf("</" + kind + ">", from);
        if (to < 0) {
            return c.replaceFirst("[abc]", random.nextBoolean() ? "q" : "");
        }
        String piece = c.substring(from, to + 4);
        switch (random.nextInt(3)) {
            case 0:
                return c.substring(0, from) + piece + c.substring(from);
            case 1:
                return c.substring(0, from) + c.substring(to + 4);
            default:
                return c.substring(0, from) + "<p>n</p>" + c.substring(from);
        }
    }

    private String packageOf(String s, String c) {
        int way = random.nextInt(10);
        String s2 = way == 0 ? broken(s) : s;
        String c2 = way == 1 || way == 2 ? broken(c) : c;
        String text = random.nextBoolean() ? Parcels.plain(s2, c2)
                : Parcels.part("S", 1, loosely(s2), s2) + Parcels.part("C", 1, loosely(c2), c2);
        return way == 3 ? broken(text) : text;
    }

    /** Packed with references of any length, not with the best ones. */
    private String loosely(String content) {
        StringBuilder data = new StringBuilder();
        int at = 0;
        while (at < content.length()) {
            int used = 1;
            String next = content.substring(at, at + 1);
            for (int back = 1; back < 100 && back <= at && used == 1; back++) {
                int same = 0;
                while (same < 14 && at + same < content.length()
                        && content.charAt(at + same) == content.charAt(at + same - back)) {
                    same++;
                }
                if (same >= 5 && random.nextInt(3) > 0) {
                    used = 5 + random.nextInt(same - 4);
                    next = String.format("~%02d%d", back, used - 5);
                }
            }
            data.append(next);
            at += used;
        }
        return data.toString();
    }

    private String broken(String text) {
        String signs = "<>/ =\"~&abpxlidstnfzky0123456789AZ";
        int at = random.nextInt(text.length() + 1);
        char sign = signs.charAt(random.nextInt(signs.length()));
        switch (random.nextInt(4)) {
            case 0:
                return text.substring(0, at) + sign + text.substring(at);
            case 1:
                return text.substring(0, at) + (at < text.length() ? text.substring(at + 1) : "");
            case 2:
                return text.substring(0, at);
            default:
                return text.substring(0, at) + (at < text.length() ? sign + text.substring(at + 1) : "");
        }
    }
}
