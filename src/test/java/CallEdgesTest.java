/** The edges that promises 1 to 6 and 10 to 17 name: each call with what is just right, and just wrong. */
public final class CallEdgesTest {
    private static final int NAME = Asm.name("kern");
    private static final int LOWEST = Integer.MIN_VALUE;
    private static final int HIGHEST = Integer.MAX_VALUE;

    public static void main(String[] args) {
        pokeTakesAddressesBelow512();
        pokeIsRefusedWhenSealed();
        sealIsTrueOnce();
        symbolTakesNames();
        symbolTakesAnyAddressAndCheck();
        symbolIsRefused();
        feedStopsAt1200();
        feedByteStopsAt1200();
        feedByteTakesTheLowestByte();
        callIsRefused();
        callTakesAnyNumbers();
        callKeepsWhatItChanged();
        peekTakesAddressesBelow4096();
        isProtectedIsFalseForOthers();
        registerIsZeroForOthers();
        lookupIsNoneForOthers();
        moduleIsNoneForOthers();
        countIsNoneForOthers();
        countKnowsFullAndEmpty();
        atIsNoneForOthers();
        Check.end();
    }

    private static void pokeTakesAddressesBelow512() {
        ModuleLoader x = new ModuleLoader();
        for (int address : new int[] {0, 4, 504, 508}) {
            for (int word : new int[] {LOWEST, -1, 0, HIGHEST}) {
                x.poke(address, word);
                Check.same("poke(" + address + ")", x.peek(address), word);
            }
        }
        for (int address : new int[] {512, 516, 4092, 4096, -4, -512, LOWEST, HIGHEST - 3}) {
            Check.refusesIndex("poke(" + address + ")", () -> x.poke(address, 7));
        }
        for (int address : new int[] {1, 2, 3, 5, 505, 506, 507, 509, 510, 511, 513, -1, -2, -3, HIGHEST}) {
            Check.refusesIndex("poke(" + address + ")", () -> x.poke(address, 7));
        }
        Check.same("the last word", x.peek(508), HIGHEST);
        Check.same("behind the kernel", x.peek(512), 0);
        Check.same("the last word of memory", x.peek(4092), 0);
    }

    private static void pokeIsRefusedWhenSealed() {
        ModuleLoader x = new ModuleLoader();
        x.poke(0, 5);
        x.seal();
        for (int address : new int[] {0, 4, 508}) {
            Check.refusesState("poke(" + address + ")", () -> x.poke(address, 7));
        }
        for (int address : new int[] {-4, 1, 510, 512}) {
            Check.refusesIndex("poke(" + address + "), which is wrong in both", () -> x.poke(address, 7));
        }
        Check.same("it stays", x.peek(0), 5);
        Check.same("it stays", x.peek(508), 0);
    }

    private static void sealIsTrueOnce() {
        ModuleLoader x = new ModuleLoader();
        Check.no("before", x.isProtected(0) || x.isProtected(511));
        Check.yes("the first", x.seal());
        for (int k = 0; k < 3; k++) {
            Check.no("another", x.seal());
            Check.yes("behind it", x.isProtected(0) && x.isProtected(511));
            Check.no("the arena", x.isProtected(512));
        }
        x.symbol(NAME, 1, 2);
        Check.same("symbols may come yet", x.lookup(NAME, 0), 2);
    }

    private static void symbolTakesNames() {
        for (int shift = 0; shift < 32; shift += 8) {
            for (int letter = 0; letter < 256; letter++) {
                ModuleLoader x = new ModuleLoader();
                int name = NAME & ~(255 << shift) | letter << shift;
                if (letter >= 'a' && letter <= 'z') {
                    x.symbol(name, 1, 2);
                    Check.same("symbol " + name, x.lookup(name, 0), 2);
                } else {
                    Check.refusesArguments("symbol " + name, () -> x.symbol(name, 1, 2));
                    Check.refusesArguments("load " + name, () -> x.load(name, 0));
                    Check.same("symbols", x.count(1), 0);
                }
            }
        }
        ModuleLoader x = new ModuleLoader();
        for (int name : new int[] {0, -1, LOWEST, HIGHEST, 0x61616160, 0x7A7A7A7B}) {
            Check.refusesArguments("symbol " + name, () -> x.symbol(name, 1, 2));
        }
        x.symbol(0x61616161, 1, 2);
        x.symbol(0x7A7A7A7A, 3, 4);
        Check.same("aaaa", x.lookup(0x61616161, 1), 1);
        Check.same("zzzz", x.lookup(0x7A7A7A7A, 1), 3);
    }

    private static void symbolTakesAnyAddressAndCheck() {
        for (int word : new int[] {0, 1, 3, 511, 512, 4095, 4096, -1, -4, LOWEST, HIGHEST}) {
            ModuleLoader x = new ModuleLoader();
            x.symbol(NAME, word, ~word);
            Check.same("check", x.lookup(NAME, 1), word);
            Check.same("address", x.lookup(NAME, 0), ~word);
        }
    }

    private static int numbered(int k) {
        return Asm.name("sy" + (char) ('a' + k / 26) + (char) ('a' + k % 26));
    }

    private static void symbolIsRefused() {
        ModuleLoader x = new ModuleLoader();
        for (int k = 0; k < 40; k++) {
            Check.same("symbols", x.count(1), k);
            x.symbol(numbered(k), k, k);
            Check.refusesState("that name again", () -> x.symbol(numbered(0), -1, -1));
        }
        Check.refusesState("a 41st", () -> x.symbol(NAME, 1, 2));
        Check.refusesState("the last name again", () -> x.symbol(numbered(39), 1, 2));
        Check.refusesArguments("no name comes first", () -> x.symbol(0, 1, 2));
        Check.same("symbols", x.count(1), 40);
        Check.same("the first stays", x.lookup(numbered(0), 1), 0);
        Check.same("the last stays", x.lookup(numbered(39), 1), 39);
        Check.same("the 41st is not there", x.lookup(NAME, 1), -1);
        ModuleLoader y = new ModuleLoader();
        FileWords.of(1).exports("kern", 5, 0).load(y, "modu");
        Check.refusesState("a module's symbol", () -> y.symbol(NAME, 1, 2));
        Check.same("it stays", y.lookup(NAME, 1), 5);
        y.unload(Asm.name("modu"), 0);
        y.symbol(NAME, 1, 2);
        Check.same("the kernel's now", y.lookup(NAME, 2), 0);
    }

    private static ModuleLoader withTape(int bytes) {
        ModuleLoader x = new ModuleLoader();
        for (int k = 0; k < bytes / 4; k++) {
            x.feed(k);
        }
        for (int k = 0; k < bytes % 4; k++) {
            x.feedByte(k);
        }
        Check.same("the tape", x.count(4), bytes);
        return x;
    }

    private static void feedStopsAt1200() {
        Check.same("feed at 0", withTape(0).feed(-1), 4);
        Check.same("feed at 1192", withTape(1192).feed(-1), 1196);
        Check.same("feed at 1195", withTape(1195).feed(-1), 1199);
        Check.same("feed at 1196", withTape(1196).feed(-1), 1200);
        for (int bytes = 1197; bytes <= 1200; bytes++) {
            ModuleLoader x = withTape(bytes);
            Check.same("feed at " + bytes, x.feed(-1), -1);
            Check.same("feed at " + bytes + " again", x.feed(-1), -1);
            Check.same("the tape stays", x.count(4), bytes);
            Check.refusesState("it is no file", () -> x.load(NAME, 0));
            Check.same("an empty tape takes it", x.feed(-1), 4);
        }
    }

    private static void feedByteStopsAt1200() {
        Check.same("feedByte at 0", withTape(0).feedByte(-1), 1);
        for (int bytes = 1196; bytes < 1200; bytes++) {
            Check.same("feedByte at " + bytes, withTape(bytes).feedByte(-1), bytes + 1);
        }
        ModuleLoader x = withTape(1200);
        Check.same("feedByte at 1200", x.feedByte(-1), -1);
        Check.same("feedByte at 1200 again", x.feedByte(-1), -1);
        Check.same("the tape stays", x.count(4), 1200);
        Check.refusesState("it is no file", () -> x.load(NAME, 0));
        Check.same("an empty tape takes it", x.feedByte(-1), 1);
    }

    private static void feedByteTakesTheLowestByte() {
        for (int above : new int[] {0, 256, -256, LOWEST, 0x12345600}) {
            ModuleLoader x = new ModuleLoader();
            for (int word : FileWords.of(0x80FF7F01).words()) {
                for (int shift = 0; shift < 32; shift += 8) {
                    x.feedByte(word >>> shift & 255 | above);
                }
            }
            Check.same("load", x.load(NAME, 0), 512);
            Check.same("its word", x.peek(512), 0x80FF7F01);
        }
    }

    private static void callIsRefused() {
        ModuleLoader x = new ModuleLoader();
        Check.refusesArguments("none is there", () -> x.call(NAME, 0, 0, 0));
        Asm.kernel(x, "kern", 0, Asm.addi(20, 0, 9), Asm.RET);
        x.call(NAME, 1, 2, 2);
        FileWords.of(1).load(x, "modu");
        for (int name : new int[] {0, -1, NAME ^ 1, NAME ^ 1 << 31, Asm.name("modu")}) {
            Check.refusesArguments("call " + name, () -> x.call(name, 0, 0, 9));
        }
        for (int fuel : new int[] {-1, 2001, LOWEST, HIGHEST}) {
            Check.refusesArguments("fuel " + fuel, () -> x.call(NAME, 0, 0, fuel));
        }
        Check.same("nothing was run", x.register(10), 1);
        Check.same("with fuel 2000", x.call(NAME, 3, 4, 2000), 3);
        Check.refusesState("with fuel 0", () -> x.call(NAME, 5, 6, 0));
        Check.same("out of fuel", x.fault(0), 9);
    }

    private static void callTakesAnyNumbers() {
        ModuleLoader x = new ModuleLoader();
        Asm.kernel(x, "kern", 0, Asm.addi(12, 10, 0), Asm.addi(10, 11, 0), Asm.RET);
        for (int a : new int[] {0, -1, LOWEST, HIGHEST}) {
            for (int b : new int[] {0, -1, LOWEST, HIGHEST}) {
                Check.same("b", x.call(NAME, a, b, 3), b);
                Check.same("a", x.register(12), a);
                Check.same("fault(4)", x.fault(4), b);
            }
        }
    }

    private static void callKeepsWhatItChanged() {
        ModuleLoader x = new ModuleLoader();
        Asm.kernel(x, "kern", 0, Asm.sw(10, 0, 256), Asm.addi(21, 0, 4), 0);
        Check.refusesState("a trap", () -> x.call(NAME, 71, 0, 9));
        Check.same("memory behind a trap", x.peek(256), 71);
        Check.same("a register behind a trap", x.register(21), 4);
        Check.refusesState("out of fuel", () -> x.call(NAME, 72, 0, 1));
        Check.same("memory behind its last fuel", x.peek(256), 72);
        Check.same("a register that it did not come to", x.register(21), 0);
        Check.refusesState("no fuel", () -> x.call(NAME, 73, 0, 0));
        Check.same("memory without fuel", x.peek(256), 72);
    }

    private static void peekTakesAddressesBelow4096() {
        ModuleLoader x = new ModuleLoader();
        Asm.kernel(x, "kern", 4, Asm.sw(11, 10, 0), Asm.RET);
        for (int address : new int[] {0, 508, 512, 3836, 3840, 4088, 4092}) {
            x.call(NAME, address, LOWEST + address, 2);
            Check.same("peek(" + address + ")", x.peek(address), LOWEST + address);
        }
        for (int address : new int[] {4096, 4100, 8192, -4, -4096, LOWEST, HIGHEST - 3}) {
            Check.refusesIndex("peek(" + address + ")", () -> x.peek(address));
        }
        for (int address : new int[] {1, 2, 3, 511, 4089, 4090, 4091, 4093, 4094, 4095, 4097, -1, -2, -3, HIGHEST}) {
            Check.refusesIndex("peek(" + address + ")", () -> x.peek(address));
        }
    }

    private static void isProtectedIsFalseForOthers() {
        ModuleLoader x = new ModuleLoader();
        x.seal();
        FileWords.of(1, 2, 3).guard(4).load(x, "frst");
        FileWords.of(1, 2, 3).guard(0).load(x, "none");
        FileWords.of(1, 2, 3, 4, 5).guard(20).load(x, "alll");
        int[][] rows = {{0, 1}, {511, 1}, {512, 1}, {515, 1}, {516, 0}, {527, 0}, {528, 0}, {532, 0}, {543, 0},
            {544, 1}, {563, 1}, {564, 0}, {575, 0}, {576, 0}, {3839, 0}, {3840, 0}, {4095, 0}, {4096, 0}, {4608, 0},
            {-1, 0}, {-4096, 0}, {LOWEST, 0}, {HIGHEST, 0}};
        for (int[] row : rows) {
            Check.same("isProtected(" + row[0] + ")", x.isProtected(row[0]) ? 1 : 0, row[1]);
        }
    }

    private static void registerIsZeroForOthers() {
        ModuleLoader x = new ModuleLoader();
        for (int r = -1; r <= 32; r++) {
            Check.same("register(" + r + ") before any", x.register(r), 0);
        }
        Asm.kernel(x, "kern", 0, Asm.addi(31, 0, 31), Asm.addi(0, 0, 9), Asm.RET);
        x.call(NAME, 5, 6, 3);
        int[][] rows = {{0, 0}, {1, -4}, {2, 4096}, {3, 0}, {10, 5}, {11, 6}, {30, 0}, {31, 31}, {32, 0}, {33, 0},
            {63, 0}, {-1, 0}, {-31, 0}, {LOWEST, 0}, {HIGHEST, 0}};
        for (int[] row : rows) {
            Check.same("register(" + row[0] + ")", x.register(row[0]), row[1]);
        }
        FileWords.of(1).load(x, "modu");
        x.unload(Asm.name("modu"), 0);
        Check.same("behind what runs nothing", x.register(31), 31);
    }

    private static void lookupIsNoneForOthers() {
        ModuleLoader x = new ModuleLoader();
        Check.same("none is there", x.lookup(NAME, 0), -1);
        x.symbol(NAME, 7, 8);
        FileWords.of(1, 2).exports("expo", 9, 4).load(x, "modu");
        for (int what : new int[] {-1, 3, 4, LOWEST, HIGHEST}) {
            Check.same("lookup(" + what + ")", x.lookup(NAME, what), -1);
            Check.same("lookup of a module's (" + what + ")", x.lookup(Asm.name("expo"), what), -1);
        }
        for (int what = 0; what < 3; what++) {
            for (int name : new int[] {0, -1, NAME ^ 1, NAME ^ 1 << 31, Asm.name("modu")}) {
                Check.same("lookup of " + name, x.lookup(name, what), -1);
            }
            Check.same("the kernel's", x.lookup(NAME, what), new int[] {8, 7, 0}[what]);
            Check.same("a module's", x.lookup(Asm.name("expo"), what), new int[] {516, 9, Asm.name("modu")}[what]);
        }
    }

    private static void moduleIsNoneForOthers() {
        ModuleLoader x = new ModuleLoader();
        int modu = Asm.name("modu");
        Check.same("none is there", x.module(modu, 0), -1);
        FileWords.of(1, 2).exports("expo", 9, 4).load(x, "modu");
        for (int what : new int[] {-1, 5, 6, LOWEST, HIGHEST}) {
            Check.same("module(" + what + ")", x.module(modu, what), -1);
        }
        for (int what = 0; what < 5; what++) {
            for (int name : new int[] {0, -1, modu ^ 1, modu ^ 1 << 31, Asm.name("expo")}) {
                Check.same("module of " + name, x.module(name, what), -1);
            }
            Check.same("module(" + what + ")", x.module(modu, what), new int[] {512, 8, 1, 0, 0}[what]);
        }
        FileWords.zeros(512).imports("expo", 9).load(x, "larg");
        int[] due = {528, 512, 0, 0, 1};
        for (int what = 0; what < 5; what++) {
            Check.same("the largest (" + what + ")", x.module(Asm.name("larg"), what), due[what]);
        }
        Check.same("needed", x.module(modu, 3), 1);
        x.unload(Asm.name("larg"), 0);
        x.unload(modu, 0);
        Check.same("it has gone", x.module(modu, 0), -1);
    }

    private static void countIsNoneForOthers() {
        ModuleLoader x = new ModuleLoader();
        for (int what : new int[] {-1, 5, 6, LOWEST, HIGHEST}) {
            Check.same("count(" + what + ")", x.count(what), -1);
        }
    }

    private static void counts(String what, ModuleLoader x, int... due) {
        for (int k = 0; k < due.length; k++) {
            Check.same(what + ": count(" + k + ")", x.count(k), due[k]);
        }
    }

    private static void countKnowsFullAndEmpty() {
        ModuleLoader x = new ModuleLoader();
        counts("empty", x, 0, 0, 208, 208, 0);
        for (int k = 0; k < 12; k++) {
            FileWords.zeros(k % 2 == 0 ? 4 : 20).load(x, "mod" + (char) ('a' + k));
        }
        counts("twelve", x, 12, 0, 190, 190, 0);
        for (int k = 1; k < 12; k += 2) {
            x.unload(Asm.name("mod" + (char) ('a' + k)), 0);
        }
        counts("six", x, 6, 0, 202, 192, 0);
        x.unload(Asm.name("modk"), 0);
        counts("five", x, 5, 0, 203, 195, 0);
        for (int k = 0; k < 10; k += 2) {
            x.unload(Asm.name("mod" + (char) ('a' + k)), 0);
        }
        x.feedByte(1);
        counts("none", x, 0, 0, 208, 208, 1);
    }

    private static void atIsNoneForOthers() {
        ModuleLoader x = new ModuleLoader();
        for (int k : new int[] {-1, 0, 1, 11, 12, 13, LOWEST, HIGHEST}) {
            Check.same("empty: at(" + k + ")", x.at(k), -1);
        }
        for (int k = 0; k < 12; k++) {
            FileWords.of(k).load(x, "mod" + (char) ('a' + k));
            Check.same("at(" + k + ")", x.at(k), Asm.name("mod" + (char) ('a' + k)));
            Check.same("at(" + (k + 1) + ")", x.at(k + 1), -1);
        }
        for (int k : new int[] {-1, 12, 13, LOWEST, HIGHEST}) {
            Check.same("full: at(" + k + ")", x.at(k), -1);
        }
        x.unload(Asm.name("moda"), 0);
        Check.same("at(0)", x.at(0), Asm.name("modb"));
        Check.same("at(10)", x.at(10), Asm.name("modl"));
        Check.same("at(11)", x.at(11), -1);
        FileWords.of(1).load(x, "newa");
        Check.same("the lowest address", x.at(0), Asm.name("newa"));
        Check.same("the highest one", x.at(11), Asm.name("modl"));
    }
}
