import java.util.Random;

/** Long runs of calls with odd arguments: nothing but what the document names is thrown, and the counts agree. */
public final class SoakTest {
    private static final String[] NAMES = {"aaaa", "bbbb", "cccc", "dddd", "eeee", "ffff", "gggg", "hhhh"};
    private static final int[] NUMBERS = {0, 1, 2, 3, 4, 5, -1, -2, -4, 8, 511, 512, 513, 2000, 2001, 3839, 3840, 4092,
        4095, 4096, Integer.MIN_VALUE, Integer.MAX_VALUE};

    public static void main(String[] args) {
        for (int seed = 1; seed <= 1500; seed++) {
            run(new Random(seed), "seed " + seed);
        }
        Check.end();
    }

    private static void run(Random random, String what) {
        ModuleLoader x = new ModuleLoader();
        if (random.nextBoolean()) {
            Asm.kernel(x, "kern", 0, Asm.sw(10, 11, 0), Asm.RET);
        }
        for (int k = 0; k < 12; k++) {
            if (random.nextInt(3) != 0) {
                file(random).feed(x);
            }
            for (int j = 0; j < 3; j++) {
                oneCall(random, x, what);
            }
        }
        checkCounts(x, what);
    }

    private static int number(Random random) {
        switch (random.nextInt(4)) {
            case 0: return NUMBERS[random.nextInt(NUMBERS.length)];
            case 1: return Asm.name(NAMES[random.nextInt(NAMES.length)]);
            case 2: return random.nextInt(4200);
            default: return random.nextInt();
        }
    }

    private static int name(Random random) {
        return random.nextInt(9) == 0 ? number(random) : Asm.name(NAMES[random.nextInt(NAMES.length)]);
    }

    private static int fuel(Random random) {
        return random.nextInt(9) == 0 ? number(random) : random.nextInt(60);
    }

    /** Mostly a file, with code that mostly is some. */
    private static FileWords file(Random random) {
        int words = 1 + random.nextInt(random.nextInt(5) == 0 ? 20 : 8);
        int[] image = new int[words];
        for (int k = 0; k < words; k++) {
            int[] opcodes = {0x37, 0x17, 0x6F, 0x67, 0x63, 0x03, 0x23, 0x13, 0x33};
            int code = random.nextInt() & ~127 | opcodes[random.nextInt(opcodes.length)];
            image[k] = random.nextInt(3) == 0 ? Asm.RET : random.nextInt(3) == 0 ? Asm.addi(5, 5, 1) : code;
        }
        FileWords file = FileWords.of(image);
        if (random.nextInt(3) == 0) {
            file.init(4 * random.nextInt(words));
        }
        if (random.nextInt(3) == 0) {
            file.exit(4 * random.nextInt(words));
        }
        file.guard(4 * random.nextInt(words + 1));
        int imports = random.nextInt(6) / 4;
        for (int k = 0; k < imports; k++) {
            file.imports(NAMES[random.nextInt(NAMES.length)], 0);
        }
        if (random.nextInt(3) != 0) {
            file.exports(NAMES[random.nextInt(NAMES.length)], random.nextInt(6) / 5, 4 * random.nextInt(words));
        }
        for (int k = random.nextInt(3); k > 0; k--) {
            file.place(random.nextInt(6), 4 * random.nextInt(words), random.nextInt(imports + 1) - 1,
                2 * random.nextInt(200));
        }
        return file;
    }

    private static void oneCall(Random random, ModuleLoader x, String what) {
        int kind = random.nextInt(22);
        String got = "";
        try {
            answer(random, x, kind);
        } catch (IndexOutOfBoundsException e) {
            got = e.getClass() == IndexOutOfBoundsException.class && (kind == 0 || kind == 10) ? "" : e.toString();
        } catch (IllegalArgumentException | IllegalStateException e) {
            got = kind >= 10 && kind < 14 || kind > 14 || kind == 1 ? "" : e.toString();
        } catch (RuntimeException e) {
            got = e.toString();
        }
        Check.same(what + ", kind " + kind + got, got.length(), 0);
    }

    private static void answer(Random random, ModuleLoader x, int kind) {
        switch (kind) {
            case 0: x.peek(number(random)); break;
            case 1: x.symbol(name(random), number(random), number(random)); break;
            case 2: x.feedByte(number(random)); break;
            case 3: x.fault(number(random)); break;
            case 4: x.isProtected(number(random)); break;
            case 5: x.register(number(random)); break;
            case 6: x.lookup(name(random), number(random)); break;
            case 7: x.module(name(random), number(random)); break;
            case 8: x.count(number(random)); break;
            case 9: x.at(number(random)); break;
            case 10: x.poke(number(random), number(random)); break;
            case 11: case 12: case 13: x.call(name(random), number(random), number(random), fuel(random)); break;
            case 14: if (random.nextInt(4) == 0) { x.seal(); } break;
            case 15: case 16: x.unload(name(random), fuel(random)); break;
            default: x.load(name(random), fuel(random)); break;
        }
    }

    private static void checkCounts(ModuleLoader x, String what) {
        int modules = x.count(0);
        int rows = 208;
        int behind = 512;
        int needing = 0;
        for (int k = 0; k < modules; k++) {
            int name = x.at(k);
            int size = x.module(name, 1);
            Check.yes(what + ": module " + k + " lies behind the one before", x.module(name, 0) >= behind);
            behind = x.module(name, 0) + size + 15 & -16;
            rows -= (size + 15) / 16;
            needing += x.module(name, 3) - x.module(name, 4);
        }
        Check.yes(what + ": modules lie in the arena", behind <= 3840 && modules <= 12);
        Check.same(what + ": free rows", x.count(2), rows);
        Check.yes(what + ": rows together", x.count(3) <= rows && x.count(3) >= (3840 - behind) / 16);
        Check.same(what + ": all that need and all that are needed", needing, 0);
        Check.yes(what + ": symbols", x.count(1) <= 40);
        Check.same(what + ": register 0", x.register(0), 0);
    }
}
