import java.util.List;
import java.util.Random;
import java.util.function.IntSupplier;

/** The program held against the model: every answer and exception of random runs, and all of the state behind them. */
public final class ModelTest {
    private static final String[] NAMES = {"aaaa", "zzzz", "azaz", "bbbb", "cccc", "dddd", "eeee", "ffff", "gggg",
        "hhhh", "iiii", "jjjj", "kkkk", "llll", "mmmm", "nnnn"};
    private static final int[] NUMBERS = {0, 1, 2, 3, 4, 5, 6, -1, -2, -3, -4, -8, 7, 8, 9, 11, 12, 13, 31, 32, 33, 39,
        40, 41, 508, 510, 511, 512, 513, 516, 1196, 1200, 1999, 2000, 2001, 2047, 2048, 3836, 3839, 3840, 4092, 4095,
        4096, 4100, 1 << 30, Integer.MIN_VALUE, Integer.MAX_VALUE};

    private final Random random;
    private final String what;
    private final ModuleLoader x = new ModuleLoader();
    private final Model m = new Model();
    /** Longest images only in some runs: to fill the arena takes more than the 512 calls that an object is good for. */
    private final int leastWords;
    private final int mostWords;
    /** A crowded run has more that comes than goes. */
    private final boolean crowded;

    private ModelTest(int seed) {
        random = new Random(seed);
        what = "seed " + seed;
        boolean large = seed % 25 == 0;
        leastWords = large ? 70 : 1;
        mostWords = large ? 128 : 9;
        crowded = large || seed % 3 == 0;
    }

    public static void main(String[] args) {
        for (int seed = 1; seed <= 1500; seed++) {
            new ModelTest(seed).run();
        }
        knowsEachInstruction();
        Check.end();
    }

    private void run() {
        int kernelWords = random.nextInt(40);
        for (int k = 0; k < kernelWords; k++) {
            int word = code();
            int address = 4 * random.nextInt(128);
            same("poke", () -> done(() -> x.poke(address, word)), () -> done(() -> m.poke(address, word)));
        }
        for (int k = random.nextInt(5) == 0 ? 38 : random.nextInt(5); k > 0; k--) {
            int name = Asm.name("k" + letter() + letter() + letter());
            symbol(name, random.nextInt(2), 4 * random.nextInt(130));
        }
        for (int k = 0; k < 40; k++) {
            step();
        }
        wholeState();
    }

    private char letter() {
        return (char) ('a' + random.nextInt(26));
    }

    private static int done(Runnable call) {
        call.run();
        return 0;
    }

    private static String outcome(IntSupplier call) {
        try {
            return "" + call.getAsInt();
        } catch (RuntimeException e) {
            return e.getClass().getSimpleName();
        }
    }

    private void same(String call, IntSupplier got, IntSupplier due) {
        String answer = outcome(got);
        String wanted = outcome(due);
        Check.yes(what + ": " + call + " gave " + answer + ", due is " + wanted, answer.equals(wanted));
    }

    private int number() {
        switch (random.nextInt(4)) {
            case 0: return random.nextInt();
            case 1: return random.nextInt(4200);
            default: return NUMBERS[random.nextInt(NUMBERS.length)];
        }
    }

    private int name() {
        return random.nextInt(20) == 0 ? number() : Asm.name(NAMES[random.nextInt(NAMES.length)]);
    }

    /** A symbol that is there, mostly. */
    private int symbolName() {
        return random.nextInt(4) == 0 ? Asm.name("e" + NAMES[random.nextInt(NAMES.length)].substring(1)) : name();
    }

    private int fuel() {
        return random.nextInt(15) == 0 ? number() : random.nextInt(4) == 0 ? random.nextInt(4) : random.nextInt(40);
    }

    private int code() {
        int small = 4 * (random.nextInt(13) - 6);
        switch (random.nextInt(12)) {
            case 0: case 1: return Asm.RET;
            case 2: return Asm.jal(random.nextInt(3), small);
            case 3: return Asm.branch(random.nextInt(8), random.nextInt(12), random.nextInt(12), small);
            case 4: return Asm.addi(random.nextInt(16), random.nextInt(16), random.nextInt(4096) - 2048);
            case 5: return Asm.i(0x03, random.nextInt(6), random.nextInt(16), random.nextInt(3), random.nextInt(520) - 8);
            case 6: return Asm.store(random.nextInt(3), random.nextInt(16), 2, -random.nextInt(600));
            case 7: return Asm.store(random.nextInt(3), random.nextInt(16), random.nextInt(12), random.nextInt(2048));
            case 8: return Asm.addi(10, 0, random.nextInt(3) / 2);
            case 9: return Asm.lui(random.nextInt(16), random.nextInt());
            default:
                Object[] row = Model.INSTRUCTIONS[random.nextInt(Model.INSTRUCTIONS.length)];
                int word = random.nextInt() & ~(int) row[1] | (int) row[2];
                return random.nextInt(30) == 0 ? word ^ 1 << random.nextInt(32) : word;
        }
    }

    private FileWords file() {
        int words = leastWords + random.nextInt(mostWords - leastWords + 1);
        int[] image = new int[words];
        for (int k = 0; k < words; k++) {
            image[k] = code();
        }
        FileWords file = FileWords.of(image).guard(4 * random.nextInt(words + 1));
        if (random.nextInt(crowded ? 9 : 3) == 0) {
            file.init(4 * random.nextInt(words));
        }
        if (random.nextInt(3) == 0) {
            file.exit(4 * random.nextInt(words));
        }
        int imports = random.nextInt(3) == 0 ? random.nextInt(4) : 0;
        List<Integer> there = m.symbolNames();
        for (int k = 0; k < imports; k++) {
            int name = there.isEmpty() || random.nextInt(15) == 0 ? name() : there.get(random.nextInt(there.size()));
            file.imports(name, random.nextInt(12) == 0 ? number() : m.lookup(name, 1));
        }
        int exports = random.nextInt(4) == 0 ? random.nextInt(9) : random.nextInt(2);
        for (int k = 0; k < exports; k++) {
            String name = exports < 3 ? "e" + NAMES[random.nextInt(NAMES.length)].substring(1) : "f" + letter() + letter() + "a";
            file.exports(name, random.nextInt(12) / 11, 4 * random.nextInt(words));
        }
        for (int k = random.nextInt(4); k > 0; k--) {
            int addend = random.nextInt(5) == 0 ? number() : 2 * random.nextInt(64);
            file.place(random.nextInt(6), 4 * random.nextInt(words), random.nextInt(imports + 1) - 1, addend);
        }
        return file;
    }

    private void feedFile() {
        List<Integer> words = file().words();
        if (random.nextInt(crowded ? 40 : 8) == 0) {
            words.set(random.nextInt(words.size()), random.nextBoolean() ? number() : random.nextInt(10));
        }
        if (random.nextInt(40) == 0) {
            words.remove(random.nextInt(words.size()));
        }
        for (int word : words) {
            if (random.nextInt(20) == 0) {
                feedBytes(word);
            } else {
                same("feed", () -> x.feed(word), () -> m.feed(word));
            }
        }
        if (random.nextInt(40) == 0) {
            same("feedByte", () -> x.feedByte(words.size()), () -> m.feedByte(words.size()));
        }
    }

    private void feedBytes(int word) {
        for (int shift = 0; shift < 32; shift += 8) {
            int part = word >> shift;
            same("feedByte", () -> x.feedByte(part), () -> m.feedByte(part));
        }
    }

    private void symbol(int name, int check, int address) {
        same("symbol", () -> done(() -> x.symbol(name, check, address)), () -> done(() -> m.symbol(name, check, address)));
    }

    private void step() {
        int name = name();
        int called = symbolName();
        int fuel = fuel();
        int a = number();
        int b = number();
        switch (crowded ? random.nextInt(6) : random.nextInt(12)) {
            case 0: case 1: case 2: case 3:
                feedFile();
                same("load", () -> x.load(name, fuel), () -> m.load(name, fuel));
                break;
            case 4: case 5:
                if (crowded && random.nextInt(3) != 0) {
                    break;
                }
                same("unload", () -> done(() -> x.unload(name, fuel)), () -> done(() -> m.unload(name, fuel)));
                break;
            case 6: case 7:
                same("call", () -> x.call(called, a, b, fuel), () -> m.call(called, a, b, fuel));
                break;
            case 8:
                symbol(called, random.nextInt(2), a);
                break;
            case 9:
                same("poke", () -> done(() -> x.poke(a, b)), () -> done(() -> m.poke(a, b)));
                break;
            case 10:
                if (random.nextInt(6) == 0) {
                    same("seal", () -> x.seal() ? 1 : 0, () -> m.seal() ? 1 : 0);
                }
                break;
            default:
                if (random.nextInt(6) == 0) {
                    same("load", () -> x.load(name, fuel), () -> m.load(name, fuel));
                }
        }
        questions(name, called, a);
    }

    private void questions(int name, int symbol, int number) {
        for (int k = 0; k <= 4; k++) {
            int part = k;
            same("fault(" + k + ")", () -> x.fault(part), () -> m.fault(part));
        }
        int kind = number();
        same("fault(" + kind + ")", () -> x.fault(kind), () -> m.fault(kind));
        same("count(" + kind + ")", () -> x.count(kind), () -> m.count(kind));
        same("at(" + kind + ")", () -> x.at(kind), () -> m.at(kind));
        same("module(" + kind + ")", () -> x.module(name, kind), () -> m.module(name, kind));
        same("lookup(" + kind + ")", () -> x.lookup(symbol, kind), () -> m.lookup(symbol, kind));
        same("register(" + kind + ")", () -> x.register(kind), () -> m.register(kind));
        same("peek(" + number + ")", () -> x.peek(number), () -> m.peek(number));
        same("isProtected(" + number + ")", () -> x.isProtected(number) ? 1 : 0, () -> m.isProtected(number) ? 1 : 0);
    }

    /** More questions than an object's 512 calls, but the state is the same before and behind them. */
    private void wholeState() {
        for (int k = 0; k < 4096; k++) {
            int address = k;
            same("isProtected(" + k + ")", () -> x.isProtected(address) ? 1 : 0, () -> m.isProtected(address) ? 1 : 0);
            if (k % 4 == 0) {
                same("peek(" + k + ")", () -> x.peek(address), () -> m.peek(address));
            }
        }
        for (int k = -1; k < 33; k++) {
            int part = k;
            same("register(" + k + ")", () -> x.register(part), () -> m.register(part));
            same("count(" + k + ")", () -> x.count(part), () -> m.count(part));
            same("at(" + k + ")", () -> x.at(part), () -> m.at(part));
        }
        for (String text : NAMES) {
            for (int k = 0; k < 5; k++) {
                int part = k;
                int name = Asm.name(text);
                int export = Asm.name("e" + text.substring(1));
                same("module(" + text + ")", () -> x.module(name, part), () -> m.module(name, part));
                same("lookup(" + text + ")", () -> x.lookup(name, part), () -> m.lookup(name, part));
                same("lookup(e, " + text + ")", () -> x.lookup(export, part), () -> m.lookup(export, part));
            }
        }
    }

    /** "with all fixed bits as they are": each fixed bit of each instruction as it must not be. */
    private static void knowsEachInstruction() {
        Random random = new Random(99);
        for (Object[] row : Model.INSTRUCTIONS) {
            for (int bit = 0; bit < 32; bit++) {
                for (int k = 0; k < 3; k++) {
                    runsAs(row[0] + " with bit " + bit, random.nextInt() & ~(int) row[1] | (int) row[2], bit);
                }
            }
        }
    }

    private static void runsAs(String what, int word, int bit) {
        int changed = word ^ 1 << bit;
        ModuleLoader x = new ModuleLoader();
        Asm.kernel(x, "kern", 64, changed);
        try {
            x.call(Asm.name("kern"), 1, 2, 1);
        } catch (IllegalStateException e) {
            // what is run next may trap too, but there is no fuel for it
        }
        Check.same(what + " is none of these", x.fault(2) == 3 ? 1 : 0, Model.nameOf(changed).isEmpty() ? 1 : 0);
    }
}
