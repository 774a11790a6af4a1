import java.util.Random;

/** Many documents and broken ones, all answers compared with the model's (promises 6 to 18). */
public final class RandomTest {
    private static final int[] faultsMet = new int[8];
    private static int refusedMet = 0;
    private static int stepsMet = 0;
    private final Random random;
    private final Samples samples;

    private RandomTest(long seed) {
        random = new Random(seed);
        samples = new Samples(random);
    }

    public static void main(String[] args) {
        int rounds = args.length > 0 ? Integer.parseInt(args[0]) : 1500;
        int firstSeed = args.length > 1 ? Integer.parseInt(args[1]) : 0;
        for (int seed = firstSeed; seed < firstSeed + rounds; seed++) {
            new RandomTest(seed).round("seed " + seed);
        }
        for (int fault = 0; fault < 8; fault++) {
            Check.due("fault " + fault + " was met", faultsMet[fault] > 0, true);
        }
        Check.due("a package that is too long was met", refusedMet > 0, true);
        Check.due("steps were met", stepsMet > 0, true);
        Check.finish("RandomTest");
    }

    private void round(String name) {
        PaperParcels x = new PaperParcels();
        Model.Node[] slots = new Model.Node[3];
        String s = samples.sheet();
        String c = samples.body();
        for (int turn = 0; turn < 4; turn++) {
            int slot = turn % 2;
            readBoth(name + " turn " + turn, x, slots, slot, samples.packageOf(s, c));
            s = random.nextInt(3) == 0 ? samples.sheet() : s;
            c = random.nextInt(3) == 0 ? samples.body() : samples.edited(c);
        }
        if (slots[0] != null && slots[1] != null) {
            compareBoth(name, x, slots);
        }
        for (int slot = 0; slot < 3; slot++) {
            for (int method = 0; method < 2 && slots[slot] != null; method++) {
                emitBoth(name, x, slots, slot, method);
            }
        }
    }

    private void readBoth(String name, PaperParcels x, Model.Node[] slots, int slot, String text) {
        if (text.length() > 480) {
            return;
        }
        int fault = 0;
        int place = -1;
        Model.Node read = null;
        try {
            read = Model.read(text);
        } catch (Model.Fault f) {
            fault = f.number;
            place = f.place;
        }
        faultsMet[fault]++;
        slots[slot] = fault == 0 ? read : slots[slot];
        Check.due(name + " read of " + text, Parcels.read(x, slot, text), fault + ":" + place);
        Check.due(name + " plain form of " + text, Parcels.describe(x, slot), Model.describe(slots[slot]));
    }

    private void compareBoth(String name, PaperParcels x, Model.Node[] slots) {
        Model.Comparison due = new Model.Comparison(slots[0], slots[1]);
        Check.due(name + " compare", x.compare(), due.cost);
        Check.due(name + " script", Parcels.script(x), due.script());
        stepsMet += due.count();
        for (int n = 0; n <= due.count(); n++) {
            slots[2] = due.apply(n);
            Check.due(name + " apply " + n, x.apply(n), slots[2].all().size());
            Check.due(name + " applied " + n, Parcels.describe(x, 2), Model.describe(slots[2]));
            if (random.nextInt(3) == 0) {
                emitBoth(name, x, slots, 2, random.nextInt(2));
            }
        }
        Check.due(name + " all steps", Parcels.describe(x, 2), Parcels.describe(x, 1));
    }

    private void emitBoth(String name, PaperParcels x, Model.Node[] slots, int slot, int method) {
        String due = Model.emit(slots[slot], method);
        String before = Parcels.text(x);
        refusedMet += due == null ? 1 : 0;
        Check.dueCall(name + " emit", () -> x.emit(slot, method), due == null ? Parcels.UNSUPPORTED : due.length());
        Check.due(name + " emitted", Parcels.text(x), due == null ? before : due);
    }
}
