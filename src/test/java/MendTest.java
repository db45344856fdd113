/** Places: what each KIND makes of its word, and FAULT 7. */
public final class MendTest {
    private static final int NAME = Asm.name("modu");
    private static final int[] WORDS = {0, -1, 0x12345678, 0xA5A5A5A5};
    private static final int[] VALUES = {0, 1, 2, 4, 31, 32, 2047, 2048, 2049, 4095, 4096, 0x7FFFFFFF, 0x80000000, -1,
        -2048, -2049, 0x12345FFF, 0xFFFFF7FF, 0xFFFFF800};

    public static void main(String[] args) {
        mendsWordsAndParts();
        mendsDistances();
        refusesDistances();
        addsAddends();
        mendsInOrder();
        mendedCodeRuns();
        Check.end();
    }

    /** The word behind one place at offset 4 whose value is that of a kernel's symbol. */
    private static int mended(int kind, int word, int address) {
        ModuleLoader x = new ModuleLoader();
        x.symbol(Asm.name("kern"), 3, address);
        FileWords.of(7, word, 8).imports("kern", 3).place(kind, 4, 0, 0).load(x, "modu");
        Check.same("the word before it", x.peek(512), 7);
        Check.same("the word behind it", x.peek(520), 8);
        return x.peek(516);
    }

    private static void mendsWordsAndParts() {
        for (int word : WORDS) {
            for (int value : VALUES) {
                String what = " of " + word + " by " + value;
                Check.same("kind 0" + what, mended(0, word, value), value);
                Check.same("kind 1" + what, mended(1, word, value), word & 0xFFF | (value + 2048 >>> 12) << 12);
                Check.same("kind 2" + what, mended(2, word, value), word & 0xFFFFF | (value & 0xFFF) << 20);
                int registers = word & 0x01FFF07F;
                int store = Asm.store(0, 0, 0, value & 0xFFF) & 0xFE000F80;
                Check.same("kind 3" + what, mended(3, word, value), registers | store);
            }
        }
    }

    private static void mendsDistances() {
        for (int word : WORDS) {
            for (int distance : new int[] {-1048576, -4098, -4096, -2048, -516, -4, -2, 0, 2, 16, 30, 32, 2046, 2048,
                4094, 4096, 65536, 1048574, 699050}) {
                Check.same("kind 4 of " + word + " by " + distance, mended(4, word, 516 + distance),
                    word & 0xFFF | Asm.jal(0, distance) & 0xFFFFF000);
                if (distance >= -4096 && distance <= 4094) {
                    Check.same("kind 5 of " + word + " by " + distance, mended(5, word, 516 + distance),
                        word & 0x01FFF07F | Asm.branch(0, 0, 0, distance) & 0xFE000F80);
                }
            }
        }
    }

    private static void refused(int kind, int distance) {
        ModuleLoader x = new ModuleLoader();
        x.symbol(Asm.name("kern"), 3, 528 + distance);
        FileWords.of(7, 8, 9, 10, 11).imports("kern", 3).place(kind, 0, -1, 16).place(0, 8, 0, 1)
            .place(kind, 16, 0, 0).place(kind, 12, 0, 1).feed(x);
        String what = "kind " + kind + " by " + distance;
        Check.loadFault(what, x, NAME, 0, 7, 2);
        for (int address = 512; address < 532; address += 4) {
            Check.same(what + ": peek(" + address + ")", x.peek(address), 0);
        }
        Check.same(what + ": modules", x.count(0), 0);
    }

    private static void refusesDistances() {
        for (int distance : new int[] {-1048578, -1048577, 1048575, 1048576, 1048578, 1 << 31, 1 << 30, 1, -1, 3, 4095}) {
            refused(4, distance);
            refused(5, distance);
        }
        for (int distance : new int[] {-4098, -4097, 4095, 4096, 4098, -1048576, 1048574}) {
            refused(5, distance);
        }
    }

    private static void addsAddends() {
        ModuleLoader x = new ModuleLoader();
        x.symbol(Asm.name("kena"), 3, 100);
        x.symbol(Asm.name("kenb"), 3, -8);
        FileWords.zeros(512).load(x, "frst");
        FileWords.of(0, 0, 0, 0, 0, 0).imports("kena", 3).imports("kenb", 3).place(0, 0, 0, 11).place(0, 4, 1, 11)
            .place(0, 8, -1, 12).place(0, 12, -1, -2000).place(0, 16, 0, 1 << 31).place(0, 20, 1, -1).load(x, "modu");
        int[] due = {111, 3, 1036, -976, (1 << 31) + 100, -9};
        for (int k = 0; k < due.length; k++) {
            Check.same("place " + k, x.peek(1024 + 4 * k), due[k]);
        }
    }

    private static void mendsInOrder() {
        ModuleLoader x = new ModuleLoader();
        FileWords.of(0x555).place(1, 0, -1, 0x12345000).place(2, 0, -1, 0x678).load(x, "frst");
        Check.same("1, then 2", x.peek(512), (0x878 << 20) | 0x45000 | 0x555);
        FileWords.of(-1).place(0, 0, -1, 0).place(2, 0, -1, 3).load(x, "scnd");
        Check.same("0, then 2", x.peek(528), (0x213 << 20) | 528);
        FileWords.of(-1).place(2, 0, -1, 3).place(0, 0, -1, 5).load(x, "thrd");
        Check.same("2, then 0", x.peek(544), 549);
    }

    private static void mendedCodeRuns() {
        ModuleLoader x = new ModuleLoader();
        FileWords.of(Asm.lui(5, 0), Asm.addi(5, 5, 0), Asm.lui(6, 0), Asm.sw(5, 6, 0), Asm.branch(0, 0, 0, 0), 0,
            Asm.RET, 0).place(1, 0, -1, 2000).place(2, 4, -1, 2000).place(1, 8, -1, 1700).place(3, 12, -1, 1700)
            .place(5, 16, -1, 24).exports("runs", 1, 0).load(x, "modu");
        x.call(Asm.name("runs"), 1, 2, 6);
        Check.same("lui and addi", x.register(5), 2512);
        Check.same("lui and sw", x.peek(2212), 2512);
        Check.same("instructions", x.fault(3), 6);
    }
}
