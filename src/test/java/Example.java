public final class Example {
    public static void main(String[] args) {
        PaperParcels x = new PaperParcels();
        write(x, "S0023<t><s n=\"A\" b=\"1\"/></t>a7c6C0034<d><p>one <x y=\"A\">two</x></p></d>0000");
        System.out.println("fault " + x.read(0) + " at place " + x.place());

        x.wipe();
        write(x, "S0023<t><s n=\"A\" b=\"1\"/></t>a7c6C0034<d><p>one <x y=\"A\">two</x></p></d>14dd");
        System.out.println("fault " + x.read(0) + ", " + x.nodes(0) + " nodes");
        for (int node = 0; node < x.nodes(0); node++) {
            System.out.println("node " + node + ": kind " + x.kind(0, node) + " in " + x.above(0, node)
                    + ", b " + x.look(0, node, 0) + ", " + x.letters(0, node) + " letters");
        }

        x.wipe();
        write(x, "S0004<t/>2296C0045<d><l><i><p>six</p></i></l><p>one two</p></d>5a4d");
        System.out.println("fault " + x.read(1) + ", " + x.nodes(1) + " nodes");
        System.out.println("cost " + x.compare());
        for (int k = 0; k < x.steps(); k++) {
            System.out.println("step " + k + ": old " + x.step(k, false) + ", new " + x.step(k, true));
        }
        System.out.println("after two steps: " + x.apply(2) + " nodes, packed: " + x.emit(2, 1) + " characters");
        System.out.println(text(x));
    }

    /** Eight characters to a call, the first of them in the lowest byte. */
    static void write(PaperParcels x, String text) {
        for (int from = 0; from < text.length(); from += 8) {
            long eight = 0;
            for (int i = Math.min(from + 8, text.length()) - 1; i >= from; i--) {
                eight = eight << 8 | text.charAt(i);
            }
            x.write(eight);
        }
    }

    static String text(PaperParcels x) {
        StringBuilder all = new StringBuilder();
        int length = x.length();
        for (int i = 0; i < length; i++) {
            all.append((char) x.character(i));
        }
        return all.toString();
    }
}
