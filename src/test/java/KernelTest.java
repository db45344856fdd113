/** Promises 2, 3, 4, 11, 12 and 14: poke, seal, symbol, peek, isProtected, lookup. */
public final class KernelTest {
    private static final int NAME = Asm.name("kern");

    public static void main(String[] args) {
        pokesTheKernelsWords();
        sealsOnce();
        peeksAllOfMemory();
        takesNamesOfFourLetters();
        keepsSymbolsApart();
        holdsFortySymbols();
        Check.end();
    }

    private static void pokesTheKernelsWords() {
        ModuleLoader x = new ModuleLoader();
        for (int address = 0; address < 512; address += 4) {
            x.poke(address, 0x01020304 * (address + 1));
        }
        for (int address = 0; address < 512; address += 4) {
            Check.same("peek(" + address + ")", x.peek(address), 0x01020304 * (address + 1));
        }
        x.poke(508, -1);
        Check.same("a word poked again", x.peek(508), -1);
        Check.same("the word behind the kernel", x.peek(512), 0);
        for (int address : new int[] {-4, -1, 1, 2, 3, 509, 510, 511, 512, 516, 4096, 1 << 31, Integer.MAX_VALUE - 3}) {
            Check.refusesIndex("poke(" + address + ")", () -> x.poke(address, 5));
        }
    }

    private static void sealsOnce() {
        ModuleLoader x = new ModuleLoader();
        x.poke(0, 11);
        Check.no("not sealed: isProtected(0)", x.isProtected(0));
        Check.yes("first seal()", x.seal());
        Check.no("second seal()", x.seal());
        Check.refusesState("poke(0) behind seal()", () -> x.poke(0, 12));
        Check.refusesState("poke(508) behind seal()", () -> x.poke(508, 12));
        Check.refusesIndex("poke(512) behind seal()", () -> x.poke(512, 12));
        Check.refusesIndex("poke(2) behind seal()", () -> x.poke(2, 12));
        Check.same("a sealed word", x.peek(0), 11);
        for (int address = 0; address < 4096; address += 73) {
            Check.same("sealed: isProtected(" + address + ")", x.isProtected(address) ? 1 : 0, address < 512 ? 1 : 0);
        }
        Check.yes("the kernel's last byte", x.isProtected(511));
        Check.no("the arena's first byte", x.isProtected(512));
        for (int address : new int[] {-1, -4, 4096, 1 << 31, Integer.MAX_VALUE}) {
            Check.no("isProtected(" + address + ")", x.isProtected(address));
        }
    }

    private static void peeksAllOfMemory() {
        ModuleLoader x = new ModuleLoader();
        Asm.kernel(x, "kern", 0, Asm.sw(10, 11, 0), Asm.RET);
        for (int address : new int[] {8, 512, 3836, 3840, 4092}) {
            x.call(NAME, ~address, address, 9);
            Check.same("peek(" + address + ")", x.peek(address), ~address);
        }
        for (int address : new int[] {-4, -1, 1, 2, 3, 4094, 4095, 4096, 4100, 1 << 31, -4096}) {
            Check.refusesIndex("peek(" + address + ")", () -> x.peek(address));
        }
    }

    private static void takesNamesOfFourLetters() {
        for (int shift = 0; shift < 32; shift += 8) {
            for (int letter : new int[] {0, 'A', 'Z', '`', '{', 127, 128, 0xE1, 255}) {
                ModuleLoader x = new ModuleLoader();
                int name = NAME & ~(255 << shift) | letter << shift;
                Check.refusesArguments("symbol(" + name + ")", () -> x.symbol(name, 1, 2));
                Check.refusesArguments("load(" + name + ")", () -> x.load(name, 0));
                Check.same("symbols", x.count(1), 0);
            }
            for (int letter : new int[] {'a', 'z'}) {
                ModuleLoader x = new ModuleLoader();
                int name = NAME & ~(255 << shift) | letter << shift;
                x.symbol(name, 1, 2);
                Check.same("lookup(" + name + ")", x.lookup(name, 0), 2);
            }
        }
    }

    private static void keepsSymbolsApart() {
        ModuleLoader x = new ModuleLoader();
        x.symbol(NAME, 77, -4);
        x.symbol(Asm.name("aaaa"), -1, 0);
        x.symbol(Asm.name("zzzz"), 1 << 31, 3);
        Check.refusesState("a name again", () -> x.symbol(NAME, 78, 8));
        Check.same("lookup(0)", x.lookup(NAME, 0), -4);
        Check.same("lookup(1)", x.lookup(NAME, 1), 77);
        Check.same("lookup(2)", x.lookup(NAME, 2), 0);
        Check.same("lookup(3)", x.lookup(NAME, 3), -1);
        Check.same("lookup(-1)", x.lookup(NAME, -1), -1);
        Check.same("another check", x.lookup(Asm.name("zzzz"), 1), 1 << 31);
        Check.same("another address", x.lookup(Asm.name("zzzz"), 0), 3);
        Check.same("none such", x.lookup(Asm.name("bbbb"), 2), -1);
        Check.same("no name", x.lookup(0, 2), -1);
        Check.same("symbols", x.count(1), 3);
    }

    private static void holdsFortySymbols() {
        ModuleLoader x = new ModuleLoader();
        for (int i = 0; i < 40; i++) {
            x.symbol(Asm.name("sy" + (char) ('a' + i / 26) + (char) ('a' + i % 26)), i, 4 * i);
        }
        Check.same("symbols", x.count(1), 40);
        Check.refusesState("symbol 41", () -> x.symbol(NAME, 1, 2));
        Check.refusesArguments("symbol 41 without a name", () -> x.symbol(1, 1, 2));
        Check.same("symbols", x.count(1), 40);
        Check.same("the last one", x.lookup(Asm.name("sybn"), 1), 39);
    }
}
