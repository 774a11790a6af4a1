import java.util.Random;
import java.util.function.Supplier;

/** Calls in any order with any arguments, 512 to an object, all answers compared with the model's. */
public final class SequenceTest {
    private static final int CALLS_MOST = 512;
    private static final int[] ODD = {Integer.MIN_VALUE, -2, -1, 3, 40, 80, 480, 1 << 16, Integer.MAX_VALUE};

    private final PaperParcels x = new PaperParcels();
    private final Session due = new Session();
    private final Random random;
    private final Samples samples;
    private final String name;
    private String s;
    private String c;
    private int calls = 0;

    private SequenceTest(int seed) {
        random = new Random(seed);
        samples = new Samples(random);
        name = "seed " + seed;
        s = samples.sheet();
        c = samples.body();
    }

    public static void main(String[] args) {
        int objects = args.length > 0 ? Integer.parseInt(args[0]) : 150;
        int firstSeed = args.length > 1 ? Integer.parseInt(args[1]) : 0;
        for (int seed = firstSeed; seed < firstSeed + objects; seed++) {
            new SequenceTest(seed).run();
        }
        Check.finish("SequenceTest");
    }

    private void run() {
        for (int turn = 0; turn < CALLS_MOST; turn++) {
            switch (random.nextInt(24)) {
                case 0:
                    loadAndRead();
                    break;
                case 1:
                    writeAnything();
                    break;
                case 2:
                    askText();
                    break;
                case 3:
                case 4:
                    read(slot());
                    break;
                case 5:
                case 6:
                    ask("compare()", x::compare, due.compare());
                    break;
                case 7:
                case 8:
                    apply(number(due.steps()));
                    break;
                case 9:
                case 10:
                    emit(slot(), number(1));
                    break;
                case 11:
                case 12:
                case 13:
                    askScript();
                    break;
                default:
                    askNode(slot());
                    break;
            }
        }
    }

    /** Nothing is asked of an object that is used up. */
    private void ask(String call, Supplier<Object> got, Object want) {
        calls++;
        if (calls <= CALLS_MOST) {
            Check.dueCall(name + ", call " + calls + ", " + call, got, want);
        }
    }

    private int slot() {
        return random.nextInt(12) == 0 ? ODD[random.nextInt(ODD.length)] : random.nextInt(3);
    }

    private int number(int usualMost) {
        return random.nextInt(12) == 0 ? ODD[random.nextInt(ODD.length)] : random.nextInt(usualMost + 1);
    }

    private void loadAndRead() {
        String text = samples.packageOf(s, c);
        s = random.nextInt(3) == 0 ? samples.sheet() : s;
        c = random.nextInt(3) == 0 ? samples.body() : samples.edited(c);
        ask("wipe()", x::wipe, due.wipe());
        for (int from = 0; from < text.length(); from += 8) {
            long eight = 0;
            for (int i = Math.min(text.length(), from + 8) - 1; i >= from; i--) {
                eight = eight << 8 | text.charAt(i);
            }
            write(eight);
        }
        read(random.nextInt(2));
    }

    /** Bytes of which some are 0, and rarely one is no character. */
    private void writeAnything() {
        long eight = 0;
        int signs = 1 + random.nextInt(8);
        for (int i = 0; i < 8; i++) {
            long sign = random.nextInt(60) == 0 ? random.nextInt(256) : 32 + random.nextInt(95);
            eight = eight << 8 | (random.nextInt(8) < signs ? sign : 0);
        }
        write(random.nextInt(10) == 0 ? random.nextLong() : eight);
    }

    private void write(long eight) {
        ask("write(" + eight + ")", () -> x.write(eight), due.write(eight));
    }

    private void askText() {
        ask("length()", x::length, due.length());
        int i = number(due.length());
        ask("character(" + i + ")", () -> x.character(i), due.character(i));
    }

    private void read(int slot) {
        ask("read(" + slot + ")", () -> x.read(slot), due.read(slot));
        ask("place()", x::place, due.place());
    }

    private void apply(int n) {
        ask("apply(" + n + ")", () -> x.apply(n), due.apply(n));
    }

    private void emit(int slot, int method) {
        ask("emit(" + slot + ", " + method + ")", () -> x.emit(slot, method), due.emit(slot, method));
    }

    private void askScript() {
        ask("steps()", x::steps, due.steps());
        int k = number(due.steps());
        boolean fresh = random.nextBoolean();
        ask("step(" + k + ", " + fresh + ")", () -> x.step(k, fresh), due.step(k, fresh));
    }

    private void askNode(int slot) {
        Object count = due.nodes(slot);
        ask("nodes(" + slot + ")", () -> x.nodes(slot), count);
        int node = number(count instanceof Integer ? (Integer) count : 0);
        int what = number(2);
        int i = number(4);
        String behind = "(" + slot + ", " + node;
        switch (random.nextInt(5)) {
            case 0:
                ask("kind" + behind + ")", () -> x.kind(slot, node), due.kind(slot, node));
                break;
            case 1:
                ask("above" + behind + ")", () -> x.above(slot, node), due.above(slot, node));
                break;
            case 2:
                ask("look" + behind + ", " + what + ")", () -> x.look(slot, node, what), due.look(slot, node, what));
                break;
            case 3:
                ask("letters" + behind + ")", () -> x.letters(slot, node), due.letters(slot, node));
                break;
            default:
                ask("letter" + behind + ", " + i + ")", () -> x.letter(slot, node, i), due.letter(slot, node, i));
                break;
        }
    }
}
