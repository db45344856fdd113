/** Traps and fuel, as promises 8 and 10 tell them. */
public final class TrapTest {
    private static final int NAME = Asm.name("kern");

    public static void main(String[] args) {
        refusesCalls();
        trapsWhereItRuns();
        trapsOnOtherInstructions();
        trapsOnAccess();
        trapsInOrder();
        trapsOnProtectedBytes();
        endsAtTheReturnAddress();
        takesFuel();
        Check.end();
    }

    private static ModuleLoader kernel(int... words) {
        ModuleLoader x = new ModuleLoader();
        Asm.kernel(x, "kern", 0, words);
        return x;
    }

    private static void traps(String what, ModuleLoader x, int a, int b, int trap, int steps) {
        Check.refusesState(what, () -> x.call(NAME, a, b, steps));
        Check.faults(what, x, 8, -1, trap, steps, 0);
    }

    private static void refusesCalls() {
        ModuleLoader x = kernel(Asm.RET);
        x.call(NAME, 12, 0, 5);
        Check.refusesArguments("fuel -1", () -> x.call(NAME, 1, 2, -1));
        Check.refusesArguments("fuel 2001", () -> x.call(NAME, 1, 2, 2001));
        Check.refusesArguments("no such symbol", () -> x.call(Asm.name("kerm"), 1, 2, 5));
        Check.refusesArguments("no name", () -> x.call(0, 1, 2, 5));
        Check.faults("refused calls leave the report", x, 0, -1, 0, 1, 12);
        Check.same("fault(5)", x.fault(5), -1);
        Check.same("fault(-1)", x.fault(-1), -1);
        Check.same("fuel 2000", x.call(NAME, 3, 0, 2000), 3);
    }

    private static void trapsWhereItRuns() {
        int[][] rows = {{1, 1}, {2, 1}, {3, 1}, {4097, 1}, {-1, 1}, {-2, 1}, {-3, 1}, {4096, 2}, {-8, 2}, {1 << 31, 2},
            {4092, 3}, {512, 3}};
        for (int[] row : rows) {
            ModuleLoader x = new ModuleLoader();
            x.symbol(NAME, 0, row[0]);
            traps("a run from " + row[0], x, 5, 6, row[1], 1);
            Check.same("register 10", x.register(10), 5);
        }
        ModuleLoader x = kernel(Asm.jal(5, 6));
        traps("a jump to the middle of an instruction", x, 0, 0, 1, 2);
        Check.same("the jump was run", x.register(5), 4);
        x = kernel(Asm.addi(5, 0, 6), Asm.jalr(6, 5, 0));
        traps("jalr to the middle of an instruction", x, 0, 0, 1, 3);
        Check.same("the jalr was run", x.register(6), 8);
        x = kernel(Asm.lui(5, 1), Asm.sw(11, 5, -4), Asm.jalr(6, 5, -4));
        traps("behind the last instruction", x, 0, Asm.addi(10, 0, 77), 2, 5);
        Check.same("the last instruction was run", x.register(10), 77);
    }

    private static void trapsOnOtherInstructions() {
        for (int opcode = 0; opcode < 128; opcode++) {
            boolean known = opcode == 0x37 || opcode == 0x17 || opcode == 0x6F || opcode == 0x67 || opcode == 0x63
                || opcode == 0x03 || opcode == 0x23 || opcode == 0x13 || opcode == 0x33;
            if (!known) {
                traps("opcode " + opcode, kernel(opcode | 5 << 7), 1, 2, 3, 1);
            }
        }
        for (int funct3 = 1; funct3 < 8; funct3++) {
            traps("jalr " + funct3, kernel(Asm.i(0x67, funct3, 0, 1, 0)), 1, 2, 3, 1);
        }
        traps("branch 2", kernel(Asm.branch(2, 0, 0, 8)), 1, 2, 3, 1);
        traps("branch 3", kernel(Asm.branch(3, 0, 0, 8)), 1, 2, 3, 1);
        for (int funct3 : new int[] {3, 6, 7}) {
            traps("load " + funct3, kernel(Asm.i(0x03, funct3, 5, 0, 0)), 1, 2, 3, 1);
        }
        for (int funct3 = 3; funct3 < 8; funct3++) {
            traps("store " + funct3, kernel(Asm.store(funct3, 5, 0, 64)), 1, 2, 3, 1);
        }
        traps("FENCE", kernel(0x0FF0000F), 1, 2, 3, 1);
        traps("ECALL", kernel(0x73), 1, 2, 3, 1);
        traps("EBREAK", kernel(0x100073), 1, 2, 3, 1);
        traps("MUL", kernel(Asm.r(1, 0, 10, 10, 11)), 1, 2, 3, 1);
        traps("zeros", kernel(0), 1, 2, 3, 1);
    }

    private static void trapsOnAccess() {
        int[] loads = {0, 1, 2, 4, 5};
        for (int kind : loads) {
            int size = 1 << (kind & 3);
            for (int address : new int[] {1, 2, 3, 4095, 4096, 4097, -1, -2, -4, 1 << 31}) {
                int trap = address % size != 0 ? 4 : address < 0 || address > 4095 ? 5 : 0;
                if (trap != 0) {
                    ModuleLoader x = kernel(Asm.i(0x03, kind, 10, 10, 0));
                    traps("load " + kind + " from " + address, x, address, 9, trap, 1);
                    Check.same("register 10", x.register(10), address);
                }
            }
        }
        for (int kind = 0; kind < 3; kind++) {
            for (int address : new int[] {513, 514, 515, 4095, 4096, 4097, -1, -2, -4, 1 << 31}) {
                int trap = address % (1 << kind) != 0 ? 4 : address < 0 || address > 4095 ? 5 : 0;
                if (trap != 0) {
                    ModuleLoader x = kernel(Asm.store(kind, 11, 10, 0));
                    traps("store " + kind + " to " + address, x, address, -1, trap, 1);
                    Check.same("peek(512)", x.peek(512), 0);
                    Check.same("peek(4092)", x.peek(4092), 0);
                }
            }
        }
        traps("a load to register 0", kernel(Asm.lw(0, 0, 2)), 0, 0, 4, 1);
    }

    private static void trapsInOrder() {
        ModuleLoader x = kernel(Asm.sw(11, 10, 0));
        x.seal();
        traps("a sealed byte and no multiple", x, 2, 0, 4, 1);
        traps("no multiple and not in memory", x, 4098, 0, 4, 1);
        traps("not in memory", x, 4096, 0, 5, 1);
        traps("a sealed byte", x, 4, 0, 6, 1);
    }

    private static void trapsOnProtectedBytes() {
        ModuleLoader x = kernel(Asm.store(0, 11, 10, 0), Asm.RET);
        x.call(NAME, 511, 0x55, 2);
        Check.same("not sealed yet", x.peek(508), 0x55000000);
        x.seal();
        for (int address : new int[] {0, 3, 508, 511}) {
            traps("a byte to " + address, x, address, 1, 6, 1);
        }
        Check.same("the sealed word", x.peek(508), 0x55000000);
        x.call(NAME, 512, 0x77, 2);
        Check.same("behind the kernel", x.peek(512), 0x77);
        FileWords.of(Asm.RET, 5, 6).guard(8).load(x, "modu");
        traps("the guard's first byte", x, 512, 1, 6, 1);
        traps("the guard's last byte", x, 519, 1, 6, 1);
        x.call(NAME, 520, 0x99, 2);
        Check.same("behind the guard", x.peek(520), 0x99);
        x.call(NAME, 3840, 0x99, 2);
        Check.same("behind the arena", x.peek(3840), 0x99);
    }

    private static void endsAtTheReturnAddress() {
        ModuleLoader x = new ModuleLoader();
        x.symbol(NAME, 0, -4);
        Check.same("a run from there", x.call(NAME, 5, 6, 0), 5);
        Check.faults("a run from there", x, 0, -1, 0, 0, 5);
        Check.same("register 11", x.register(11), 6);
        x = kernel(Asm.jal(3, -4));
        Check.same("jal to there", x.call(NAME, 5, 6, 1), 5);
        Check.same("its link", x.register(3), 4);
        x = kernel(Asm.addi(1, 0, 8), Asm.RET, Asm.addi(1, 0, -4), Asm.RET);
        Check.same("by a register that was changed", x.call(NAME, 5, 6, 4), 5);
    }

    private static void takesFuel() {
        ModuleLoader x = kernel(Asm.addi(10, 10, 1), Asm.sw(10, 0, 256), Asm.RET);
        for (int fuel = 0; fuel <= 2; fuel++) {
            int given = fuel;
            Check.refusesState("fuel " + fuel, () -> x.call(NAME, 4, 0, given));
            Check.faults("fuel " + fuel, x, 9, -1, 0, fuel, 0);
            Check.same("register 10", x.register(10), fuel == 0 ? 4 : 5);
        }
        Check.same("what it has changed stays", x.peek(256), 5);
        Check.same("just enough", x.call(NAME, 5, 0, 3), 6);
        Check.faults("just enough", x, 0, -1, 0, 3, 6);
        ModuleLoader y = kernel(Asm.addi(10, 10, 1), 0);
        Check.refusesState("no fuel for the trap", () -> y.call(NAME, 0, 0, 1));
        Check.faults("no fuel for the trap", y, 9, -1, 0, 1, 0);
        traps("fuel for the trap", y, 0, 0, 3, 2);
        ModuleLoader z = kernel(Asm.addi(10, 10, 1), Asm.jal(0, -4));
        Check.refusesState("a run without an end", () -> z.call(NAME, 0, 0, 2000));
        Check.faults("a run without an end", z, 9, -1, 0, 2000, 0);
        Check.same("register 10", z.register(10), 1000);
    }
}
