/** Promises 10 and 13: call and register, and what each instruction does. */
public final class InstructionTest {
    private static final int NAME = Asm.name("kern");
    private static final int[] NUMBERS = {0, 1, 2, 5, 31, 32, 33, 2047, -2048, -1, -2, -31, 0x12345678, 0x80000000,
        0x7FFFFFFF, 0xFEDCBA98};

    public static void main(String[] args) {
        computesWithRegisters();
        computesWithImmediates();
        branches();
        jumps();
        buildsAddresses();
        readsMemory();
        writesMemory();
        keepsRegisterZero();
        startsEveryRunAnew();
        runsWhatItWrites();
        Check.end();
    }

    private static ModuleLoader kernel(int... words) {
        ModuleLoader x = new ModuleLoader();
        Asm.kernel(x, "kern", 0, words);
        return x;
    }

    private static int result(int funct7, int funct3, int a, int b) {
        switch (funct3) {
            case 0: return (int) (funct7 == 0 ? (long) a + b : (long) a - b);
            case 1: return (int) ((long) a << (b & 31));
            case 2: return a < b ? 1 : 0;
            case 3: return (a & 0xFFFFFFFFL) < (b & 0xFFFFFFFFL) ? 1 : 0;
            case 4: return (a | b) - (a & b);
            case 5: return (int) ((funct7 == 0 ? a & 0xFFFFFFFFL : (long) a) >> (b & 31));
            case 6: return ~(~a & ~b);
            default: return ~(~a | ~b);
        }
    }

    private static void computesWithRegisters() {
        for (int funct3 = 0; funct3 < 8; funct3++) {
            for (int funct7 = 0; funct7 < 128; funct7++) {
                boolean known = funct7 == 0 || funct7 == 32 && (funct3 == 0 || funct3 == 5);
                ModuleLoader x = kernel(Asm.r(funct7, funct3, 10, 10, 11), Asm.RET);
                if (!known) {
                    Check.refusesState("r " + funct7 + " " + funct3, () -> x.call(NAME, 1, 2, 9));
                    Check.faults("r " + funct7 + " " + funct3, x, 8, -1, 3, 1, 0);
                    continue;
                }
                for (int a : NUMBERS) {
                    for (int b : NUMBERS) {
                        Check.same("r " + funct7 + " " + funct3 + " of " + a + ", " + b, x.call(NAME, a, b, 2),
                            result(funct7, funct3, a, b));
                    }
                }
            }
        }
    }

    private static void computesWithImmediates() {
        for (int funct3 = 0; funct3 < 8; funct3++) {
            for (int imm : new int[] {0, 1, 5, 31, 2047, -1, -2, -2048, 1024 + 1, 1024 + 31}) {
                boolean shift = funct3 == 1 || funct3 == 5;
                boolean signed = imm >> 5 == 32;
                boolean known = !shift || imm >> 5 == 0 || signed && funct3 == 5;
                ModuleLoader x = kernel(Asm.i(0x13, funct3, 10, 10, imm), Asm.RET);
                for (int a : NUMBERS) {
                    String what = "i " + funct3 + " of " + a + ", " + imm;
                    if (known) {
                        Check.same(what, x.call(NAME, a, 3, 2), result(shift && signed ? 32 : 0, funct3, a, imm));
                    } else {
                        Check.refusesState(what, () -> x.call(NAME, a, 3, 9));
                        Check.same(what + ": trap", x.fault(2), 3);
                        Check.same(what + ": register 10", x.register(10), a);
                    }
                }
            }
        }
    }

    private static boolean taken(int funct3, int a, int b) {
        switch (funct3) {
            case 0: return a == b;
            case 1: return a != b;
            case 4: return a < b;
            case 5: return a >= b;
            case 6: return (a & 0xFFFFFFFFL) < (b & 0xFFFFFFFFL);
            default: return (a & 0xFFFFFFFFL) >= (b & 0xFFFFFFFFL);
        }
    }

    private static void branches() {
        for (int funct3 = 0; funct3 < 8; funct3++) {
            if (funct3 == 2 || funct3 == 3) {
                continue;
            }
            ModuleLoader x = kernel(Asm.branch(funct3, 10, 11, 12), Asm.addi(10, 0, 1), Asm.RET, Asm.addi(10, 0, 2),
                Asm.RET);
            for (int a : NUMBERS) {
                for (int b : NUMBERS) {
                    Check.same("branch " + funct3 + " of " + a + ", " + b, x.call(NAME, a, b, 9),
                        taken(funct3, a, b) ? 2 : 1);
                }
            }
        }
        for (int distance : new int[] {-4096, -2048, -1024, -32, -4, 4, 8, 16, 32, 64, 1024, 2048, 4092, 2730, 4094}) {
            ModuleLoader x = new ModuleLoader();
            Asm.kernel(x, "kern", 64, Asm.branch(0, 0, 0, distance));
            checkTarget("branch by " + distance, x, 64 + distance);
        }
    }

    /** The run's next instruction shows itself by its trap: 3 for the zeros in memory. */
    private static void checkTarget(String what, ModuleLoader x, int target) {
        int trap = (target & 3) != 0 ? 1 : target < 0 || target > 4095 ? 2 : 3;
        if (target == -4) {
            Check.same(what, x.call(NAME, 5, 6, 2), 5);
            return;
        }
        if (target == 64) {
            return;
        }
        Check.refusesState(what, () -> x.call(NAME, 5, 6, 2));
        Check.faults(what, x, 8, -1, trap, 2, 0);
        if (trap == 3 && target < 512 && target >= 0) {
            x.poke(target, Asm.RET);
            Check.same(what + " to " + target, x.call(NAME, 5, 6, 2), 5);
        }
    }

    private static void jumps() {
        for (int distance : new int[] {-1048576, -4096, -2048, -68, -64, -32, 4, 8, 16, 32, 64, 128, 256, 444, 1024,
            2048, 4096, 65536, 524288, 1048574}) {
            ModuleLoader x = new ModuleLoader();
            Asm.kernel(x, "kern", 64, Asm.jal(7, distance));
            checkTarget("jal by " + distance, x, 64 + distance);
            Check.same("jal by " + distance + ": its link", x.register(7), 68);
        }
        ModuleLoader x = kernel(Asm.jal(5, 12), Asm.addi(10, 10, 1), Asm.RET, Asm.jalr(6, 5, 1), Asm.RET);
        Check.same("jal, and jalr to an odd address", x.call(NAME, 41, 0, 4), 42);
        Check.same("jal: its link", x.register(5), 4);
        Check.same("jalr: its link", x.register(6), 16);
        x = kernel(Asm.jal(5, 8), Asm.RET, Asm.jalr(5, 5, 0));
        Check.same("jalr to the register that it writes", x.call(NAME, 9, 0, 9), 9);
        Check.same("jalr: its link", x.register(5), 12);
        x = kernel(Asm.addi(5, 0, 2047), Asm.jalr(0, 5, -2048 + 13), Asm.addi(10, 0, 3), Asm.RET);
        Check.same("jalr with a distance below 0", x.call(NAME, 9, 0, 9), 9);
        x = kernel(Asm.jalr(3, 1, 1));
        Check.same("jalr ends a run, odd too", x.call(NAME, 8, 0, 1), 8);
        Check.same("jalr: its link", x.register(3), 4);
    }

    private static void buildsAddresses() {
        for (int high : new int[] {0, 1, 0x7FFFF, 0x80000, 0xFFFFF, 0x12345}) {
            ModuleLoader x = new ModuleLoader();
            Asm.kernel(x, "kern", 64, Asm.lui(10, high), Asm.auipc(11, high), Asm.RET);
            Check.same("lui " + high, x.call(NAME, -1, -1, 3), high << 12);
            Check.same("auipc " + high, x.register(11), 68 + (high << 12));
        }
    }

    private static void readsMemory() {
        int word = 0x80F17F82;
        int[][] due = {
            {0, 0, 0xFFFFFF82}, {0, 1, 0x7F}, {0, 2, 0xFFFFFFF1}, {0, 3, 0xFFFFFF80},
            {1, 0, 0x7F82}, {1, 2, 0xFFFF80F1}, {2, 0, word},
            {4, 0, 0x82}, {4, 1, 0x7F}, {4, 2, 0xF1}, {4, 3, 0x80},
            {5, 0, 0x7F82}, {5, 2, 0x80F1},
        };
        for (int[] row : due) {
            for (int distance : new int[] {0, 2044, -2048}) {
                ModuleLoader x = kernel(Asm.i(0x03, row[0], 10, 10, distance + row[1]), Asm.RET);
                x.poke(100, word);
                Check.same("load " + row[0] + " at " + row[1], x.call(NAME, 100 - distance, 0, 2), row[2]);
            }
        }
        ModuleLoader x = kernel(Asm.lw(10, 10, 0), Asm.RET);
        Check.same("a load of code", x.call(NAME, 4, 0, 2), Asm.RET);
        Check.same("the last word", x.call(NAME, 4092, 0, 2), 0);
    }

    private static void writesMemory() {
        int[][] due = {
            {0, 0, 0x111111EF}, {0, 1, 0x1111EF11}, {0, 2, 0x11EF1111}, {0, 3, 0xEF111111},
            {1, 0, 0x1111CDEF}, {1, 2, 0xCDEF1111}, {2, 0, 0x89ABCDEF},
        };
        for (int[] row : due) {
            for (int distance : new int[] {0, 31, 32, 2044, -1, -2048}) {
                ModuleLoader x = kernel(Asm.store(row[0], 11, 10, distance), Asm.RET);
                for (int address = 96; address <= 104; address += 4) {
                    x.poke(address, 0x11111111);
                }
                x.call(NAME, 100 + row[1] - distance, 0x89ABCDEF, 2);
                Check.same("store " + row[0] + " at " + row[1], x.peek(100), row[2]);
                Check.same("the word before it", x.peek(96), 0x11111111);
                Check.same("the word behind it", x.peek(104), 0x11111111);
            }
        }
    }

    private static void keepsRegisterZero() {
        ModuleLoader x = kernel(Asm.addi(0, 10, 5), Asm.lui(0, 9), Asm.jal(0, 4), Asm.lw(0, 0, 0),
            Asm.r(0, 0, 10, 0, 0), Asm.RET);
        Check.same("register 0 as a source", x.call(NAME, 7, 7, 9), 0);
        Check.same("register 0", x.register(0), 0);
    }

    private static void startsEveryRunAnew() {
        int[] words = new int[33];
        for (int r = 3; r < 32; r++) {
            words[r - 3] = Asm.addi(r, r, r);
        }
        words[29] = Asm.RET;
        ModuleLoader x = kernel(words);
        for (int run = 0; run < 2; run++) {
            Check.same("what it returns", x.call(NAME, 100, -100, 30), 110);
            Check.same("what it returned", x.fault(4), 110);
            Check.same("instructions", x.fault(3), 30);
            Check.same("register 1", x.register(1), -4);
            Check.same("register 2", x.register(2), 4096);
            for (int r = 3; r < 32; r++) {
                Check.same("register " + r, x.register(r), r == 10 ? 110 : r == 11 ? -89 : r);
            }
        }
        for (int r : new int[] {-1, 32, 33, 1 << 31, Integer.MAX_VALUE}) {
            Check.same("register(" + r + ")", x.register(r), 0);
        }
        Check.refusesArguments("a refused call", () -> x.call(Asm.name("none"), 1, 2, 3));
        Check.same("registers stay behind a refused call", x.register(31), 31);
        Check.refusesState("a run without fuel", () -> x.call(NAME, 6, 7, 0));
        Check.same("no fuel: register 10", x.register(10), 6);
        Check.same("no fuel: register 11", x.register(11), 7);
        Check.same("no fuel: register 31", x.register(31), 0);
    }

    private static void runsWhatItWrites() {
        ModuleLoader x = kernel(Asm.sw(11, 0, 4), 0, Asm.RET);
        Check.same("an instruction that was just written", x.call(NAME, 1, Asm.addi(10, 10, 6), 3), 7);
    }
}
