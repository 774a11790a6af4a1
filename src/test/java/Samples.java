import java.util.Random;

/** Sheets, bodies and packages by chance, most of them without a fault. */
final class Samples {
    private final Random random;

    Samples(Random random) {
        this.random = random;
    }

    String sheet() {
        StringBuilder all = new StringBuilder();
        int styles = random.nextInt(5);
        for (int i = 0; i < styles; i++) {
            char name = (char) ('A' + (random.nextInt(20) == 0 ? random.nextInt(4) : i));
            all.append("<s n=\"" + name + "\"");
            if (random.nextInt(3) == 0) {
                int parent = random.nextInt(5) == 0 ? random.nextInt(5) : random.nextInt(i + 1) - 1;
                all.append(parent < 0 ? "" : " f=\"" + (char) ('A' + parent) + "\"");
            }
            all.append(random.nextInt(3) == 0 ? " b=\"" + random.nextInt(2) + "\"" : "");
            all.append(random.nextInt(3) == 0 ? " z=\"" + (1 + random.nextInt(random.nextBoolean() ? 99 : 12)) + "\"" : "");
            all.append(random.nextInt(3) == 0 ? " k=\"" + random.nextInt(10) + "\"" : "");
            all.append(random.nextInt(6) == 0 ? "></s>" : "/>");
        }
        return all.length() == 0 && random.nextBoolean() ? "<t/>" : "<t>" + all + "</t>";
    }

    String body() {
        StringBuilder all = new StringBuilder();
        int rows = random.nextInt(5);
        for (int i = 0; i < rows && all.length() < 260; i++) {
            all.append(block(0));
        }
        if (random.nextInt(12) == 0) {
            all.setLength(0);
            all.append("<p>" + "a<x y=\"A\">b</x>".repeat(10 + random.nextInt(10)) + "</p>");
        }
        if (random.nextInt(12) == 0) {
            all.append((random.nextBoolean() ? "<p/>" : "<p>a</p>").repeat(17 + random.nextInt(15)));
        }
        return all.length() == 0 ? "<d/>" : "<d>" + all + "</d>";
    }

    private String block(int depth) {
        if (random.nextInt(3) > 0 || depth > 6) {
            return "<p" + style() + ">" + letters(depth) + "</p>";
        }
        StringBuilder items = new StringBuilder();
        int count = 1 + random.nextInt(3);
        for (int i = 0; i < count; i++) {
            items.append("<i>" + block(depth + 2));
            items.append(random.nextInt(3) == 0 ? block(depth + 2) : "").append("</i>");
        }
        return "<l>" + items + "</l>";
    }

    private String style() {
        return random.nextInt(3) > 0 ? "" : " y=\"" + (char) ('A' + random.nextInt(random.nextInt(4) == 0 ? 4 : 2)) + "\"";
    }

    private String letters(int depth) {
        StringBuilder all = new StringBuilder();
        int pieces = random.nextInt(4);
        for (int i = 0; i < pieces; i++) {
            if (random.nextInt(3) == 0 && depth < 7) {
                all.append("<x" + style() + ">" + letters(depth + 1) + "</x>");
            } else {
                String[] words = {"a", "ab", "one", "two ", "abcabcabc", "/=\"", " "};
                all.append(words[random.nextInt(words.length)]);
            }
        }
        return all.toString();
    }

    /** A likeness of a body: what lies between two tags of one kind doubled, taken out or put elsewhere. */
    String edited(String c) {
        String[] kinds = {"p", "i", "l"};
        String kind = kinds[random.nextInt(3)];
        int from = c.indexOf("<" + kind, random.nextInt(c.length()));
        int to = from < 0 ? -1 : c.indexOf("</" + kind + ">", from);
        if (to < 0) {
            return c.replaceFirst("[abc]", random.nextBoolean() ? "q" : "");
        }
        String piece = c.substring(from, to + 4);
        switch (random.nextInt(3)) {
            case 0:
                return c.substring(0, from) + piece + c.substring(from);
            case 1:
                return c.substring(0, from) + c.substring(to + 4);
            default:
                return c.substring(0, from) + "<p>n</p>" + c.substring(from);
        }
    }

    String packageOf(String s, String c) {
        int way = random.nextInt(10);
        String s2 = way == 0 ? broken(s) : s;
        String c2 = way == 1 || way == 2 ? broken(c) : c;
        String text = random.nextBoolean() ? Parcels.plain(s2, c2)
                : Parcels.part("S", 1, loosely(s2), s2) + Parcels.part("C", 1, loosely(c2), c2);
        return way == 3 ? broken(text) : text;
    }

    /** Packed with references of any length, not with the best ones. */
    private String loosely(String content) {
        StringBuilder data = new StringBuilder();
        int at = 0;
        while (at < content.length()) {
            int used = 1;
            String next = content.substring(at, at + 1);
            for (int back = 1; back < 100 && back <= at && used == 1; back++) {
                int same = 0;
                while (same < 14 && at + same < content.length()
                        && content.charAt(at + same) == content.charAt(at + same - back)) {
                    same++;
                }
                if (same >= 5 && random.nextInt(3) > 0) {
                    used = 5 + random.nextInt(same - 4);
                    next = String.format("~%02d%d", back, used - 5);
                }
            }
            data.append(next);
            at += used;
        }
        return data.toString();
    }

    String broken(String text) {
        String signs = "<>/ =\"~&abpxlidstnfzky0123456789AZ";
        int at = random.nextInt(text.length() + 1);
        char sign = signs.charAt(random.nextInt(signs.length()));
        switch (random.nextInt(4)) {
            case 0:
                return text.substring(0, at) + sign + text.substring(at);
            case 1:
                return text.substring(0, at) + (at < text.length() ? text.substring(at + 1) : "");
            case 2:
                return text.substring(0, at);
            default:
                return text.substring(0, at) + (at < text.length() ? sign + text.substring(at + 1) : "");
        }
    }
}
