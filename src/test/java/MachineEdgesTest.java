/** The edges that the terms THE MACHINE, A RUN and BYTES name, each sentence with a test of its own. */
public final class MachineEdgesTest {
    private static final int NAME = Asm.name("kern");
    private static final int LOWEST = Integer.MIN_VALUE;
    private static final int HIGHEST = Integer.MAX_VALUE;
    private static final int[] LOADS = {0, 1, 2, 4, 5};

    public static void main(String[] args) {
        memoryHas4096Bytes();
        wordsAndHalvesAreLittleEndian();
        registerZeroIsZero();
        sumsGoRound();
        shiftsTakeFiveBits();
        comparisonsKnowSigns();
        immediatesHaveTwelveBits();
        jumpsGoRound();
        jalrDropsTheLowestBit();
        addressesGoRound();
        partsKeepTheirSigns();
        storesTakeTheLowestBytes();
        trap1IsNoMultipleOfFour();
        trap2IsNotInMemory();
        trap3IsNoneOfThese();
        trap4IsNoMultipleOfItsSize();
        trap5IsNotInMemory();
        trap6IsAStoreToProtectedBytes();
        theFirstTrapThatHolds();
        whatTrapsChangesNothing();
        aRunBegins();
        aRunEnds();
        aRunTakesFuel();
        kernelBytesEndAt511();
        Check.end();
    }

    private static ModuleLoader kernel(int... words) {
        ModuleLoader x = new ModuleLoader();
        Asm.kernel(x, "kern", 0, words);
        return x;
    }

    private static int answer(int word, int a, int b) {
        return kernel(word, Asm.RET).call(NAME, a, b, 2);
    }

    private static void traps(String what, ModuleLoader x, int a, int b, int trap, int steps) {
        Check.refusesState(what, () -> x.call(NAME, a, b, 2000));
        Check.faults(what, x, 8, -1, trap, steps, 0);
    }

    private static void memoryHas4096Bytes() {
        for (int kind : LOADS) {
            int size = 1 << (kind & 3);
            Check.same("load " + kind + " of the last bytes", answer(Asm.i(0x03, kind, 10, 10, 0), 4096 - size, 7), 0);
            traps("load " + kind + " behind them", kernel(Asm.i(0x03, kind, 10, 10, 0)), 4096, 7, 5, 1);
            traps("load " + kind + " before the first ones", kernel(Asm.i(0x03, kind, 10, 10, 0)), -size, 7, 5, 1);
        }
        for (int kind = 0; kind < 3; kind++) {
            int size = 1 << kind;
            ModuleLoader x = kernel(Asm.store(kind, 11, 10, 0), Asm.RET);
            x.call(NAME, 4096 - size, -1, 2);
            Check.same("store " + kind + " to the last bytes", x.peek(4092), -1 << (32 - 8 * size));
            traps("store " + kind + " behind them", x, 4096, -1, 5, 1);
            traps("store " + kind + " before the first ones", x, -size, -1, 5, 1);
        }
        ModuleLoader x = kernel(Asm.sw(11, 10, 0), Asm.jalr(0, 10, 0));
        traps("the last instruction of memory is run, and none behind it", x, 4092, Asm.addi(10, 0, 9), 2, 4);
        Check.same("the last instruction", x.register(10), 9);
    }

    private static void wordsAndHalvesAreLittleEndian() {
        ModuleLoader x = kernel(Asm.store(0, 11, 10, 0), Asm.RET);
        int[] due = {0xA1, 0xB2A1, 0xC3B2A1, 0xD4C3B2A1};
        for (int k = 0; k < 4; k++) {
            x.call(NAME, 600 + k, due[k] >>> 8 * k, 2);
            Check.same("a word of " + (k + 1) + " bytes", x.peek(600), due[k]);
        }
        x.poke(8, Asm.i(0x03, 5, 10, 10, 0));
        x.poke(12, Asm.RET);
        x.symbol(Asm.name("half"), 0, 8);
        Check.same("the low half", x.call(Asm.name("half"), 600, 0, 2), 0xB2A1);
        Check.same("the high half", x.call(Asm.name("half"), 602, 0, 2), 0xD4C3);
    }

    private static void registerZeroIsZero() {
        int[] writers = {Asm.lui(0, -1), Asm.auipc(0, 5), Asm.jal(0, 4), Asm.jalr(0, 0, 4), Asm.lw(0, 0, 0),
            Asm.addi(0, 10, 5), Asm.r(0, 0, 0, 10, 10), Asm.i(0x13, 3, 0, 0, -1)};
        for (int word : writers) {
            ModuleLoader x = kernel(word, Asm.r(0, 6, 10, 0, 0), Asm.RET);
            Check.same("register 0 behind " + word, x.call(NAME, 77, 78, 3), 0);
            Check.same("register(0) behind " + word, x.register(0), 0);
        }
    }

    private static void sumsGoRound() {
        int add = Asm.r(0, 0, 10, 10, 11);
        int sub = Asm.r(32, 0, 10, 10, 11);
        Check.same("highest + 1", answer(add, HIGHEST, 1), LOWEST);
        Check.same("-1 + 1", answer(add, -1, 1), 0);
        Check.same("lowest + lowest", answer(add, LOWEST, LOWEST), 0);
        Check.same("0 - 1", answer(sub, 0, 1), -1);
        Check.same("lowest - 1", answer(sub, LOWEST, 1), HIGHEST);
        Check.same("0 - lowest", answer(sub, 0, LOWEST), LOWEST);
        Check.same("highest + 2047", answer(Asm.addi(10, 10, 2047), HIGHEST, 0), LOWEST + 2046);
        Check.same("lowest - 2048", answer(Asm.addi(10, 10, -2048), LOWEST, 0), HIGHEST - 2047);
        ModuleLoader x = new ModuleLoader();
        Asm.kernel(x, "kern", 64, Asm.auipc(10, 0xFFFFF), Asm.auipc(11, 0x80000), Asm.RET);
        Check.same("auipc below 0", x.call(NAME, 0, 0, 3), 64 - 4096);
        Check.same("auipc by the lowest", x.register(11), 68 + LOWEST);
    }

    private static void shiftsTakeFiveBits() {
        int[] distances = {0, 1, 31, 32, 33, 63, 64, -1, -32, 31 | 1 << 31};
        for (int distance : distances) {
            int five = distance & 31;
            for (int value : new int[] {1, -1, LOWEST, HIGHEST, 0x40000001}) {
                String what = value + " by " + distance;
                Check.same("sll " + what, answer(Asm.r(0, 1, 10, 10, 11), value, distance), value << five);
                Check.same("srl " + what, answer(Asm.r(0, 5, 10, 10, 11), value, distance), value >>> five);
                Check.same("sra " + what, answer(Asm.r(32, 5, 10, 10, 11), value, distance), value >> five);
                Check.same("slli " + what, answer(Asm.i(0x13, 1, 10, 10, five), value, 0), value << five);
                Check.same("srli " + what, answer(Asm.i(0x13, 5, 10, 10, five), value, 0), value >>> five);
                Check.same("srai " + what, answer(Asm.i(0x13, 5, 10, 10, 1024 | five), value, 0), value >> five);
            }
        }
        for (int high : new int[] {32, 64, 512, 1024, 2048}) {
            traps("slli with bit " + high, kernel(Asm.i(0x13, 1, 10, 10, high | 1)), 1, 0, 3, 1);
            if (high != 1024) {
                traps("srli with bit " + high, kernel(Asm.i(0x13, 5, 10, 10, high | 1)), 1, 0, 3, 1);
                traps("srai with bit " + high, kernel(Asm.i(0x13, 5, 10, 10, 1024 | high | 1)), 1, 0, 3, 1);
            }
        }
    }

    /** Rows: two numbers, whether the first is below the second, and below it without signs. */
    private static void comparisonsKnowSigns() {
        int[][] rows = {{0, 0, 0, 0}, {LOWEST, HIGHEST, 1, 0}, {HIGHEST, LOWEST, 0, 1}, {-1, 0, 1, 0}, {0, -1, 0, 1},
            {LOWEST, LOWEST, 0, 0}, {-1, -1, 0, 0}, {-2, -1, 1, 1}, {LOWEST, -1, 1, 1}, {HIGHEST, -1, 0, 1}};
        for (int[] row : rows) {
            String what = " of " + row[0] + " and " + row[1];
            Check.same("slt" + what, answer(Asm.r(0, 2, 10, 10, 11), row[0], row[1]), row[2]);
            Check.same("sltu" + what, answer(Asm.r(0, 3, 10, 10, 11), row[0], row[1]), row[3]);
            if (row[1] >= -1 && row[1] <= 0) {
                Check.same("slti" + what, answer(Asm.i(0x13, 2, 10, 10, row[1]), row[0], 0), row[2]);
                Check.same("sltiu" + what, answer(Asm.i(0x13, 3, 10, 10, row[1]), row[0], 0), row[3]);
            }
            int equal = row[0] == row[1] ? 1 : 0;
            int[] taken = {equal, 1 - equal, -1, -1, row[2], 1 - row[2], row[3], 1 - row[3]};
            for (int kind = 0; kind < 8; kind++) {
                if (taken[kind] >= 0) {
                    ModuleLoader x = kernel(Asm.branch(kind, 10, 11, 8), Asm.RET, Asm.addi(12, 0, 1), Asm.RET);
                    x.call(NAME, row[0], row[1], 3);
                    Check.same("branch " + kind + what, x.register(12), taken[kind]);
                }
            }
        }
    }

    private static void immediatesHaveTwelveBits() {
        for (int imm : new int[] {-2048, -1, 0, 2047}) {
            Check.same("addi " + imm, answer(Asm.addi(10, 10, imm), 0, 0), imm);
            Check.same("xori " + imm, answer(Asm.i(0x13, 4, 10, 10, imm), 0x5A5A5A5A, 0), 0x5A5A5A5A ^ imm);
            Check.same("ori " + imm, answer(Asm.i(0x13, 6, 10, 10, imm), 0x5A5A5A5A, 0), 0x5A5A5A5A | imm);
            Check.same("andi " + imm, answer(Asm.i(0x13, 7, 10, 10, imm), 0x5A5A5A5A, 0), 0x5A5A5A5A & imm);
            Check.same("slti " + imm, answer(Asm.i(0x13, 2, 10, 10, imm), imm - 1, 0), 1);
            Check.same("slti, equal " + imm, answer(Asm.i(0x13, 2, 10, 10, imm), imm, 0), 0);
            Check.same("sltiu, equal " + imm, answer(Asm.i(0x13, 3, 10, 10, imm), imm, 0), 0);
        }
        Check.same("lui of the lowest bit", answer(Asm.lui(10, 1), 0, 0), 4096);
        Check.same("lui of the highest bit", answer(Asm.lui(10, 0x80000), 0, 0), LOWEST);
        Check.same("lui of all bits", answer(Asm.lui(10, 0xFFFFF), 0, 0), -4096);
    }

    private static void jumpsGoRound() {
        Check.same("jal from 0 by -4", kernel(Asm.jal(0, -4)).call(NAME, 5, 0, 1), 5);
        Check.same("branch from 0 by -4", kernel(Asm.branch(0, 0, 0, -4)).call(NAME, 5, 0, 1), 5);
        Check.same("jalr from 0 by -4", kernel(Asm.jalr(0, 0, -4)).call(NAME, 5, 0, 1), 5);
        traps("jal from 0 by -8", kernel(Asm.jal(0, -8)), 0, 0, 2, 2);
        traps("branch from 0 by -8", kernel(Asm.branch(0, 0, 0, -8)), 0, 0, 2, 2);
        Check.same("jalr from 4294967295 by 9", kernel(Asm.jalr(0, 10, 9), 0, Asm.RET).call(NAME, -1, 0, 2), -1);
        traps("jalr from the highest by 2047", kernel(Asm.jalr(0, 10, 2047)), HIGHEST - 2, 0, 2, 2);
        farthestJumps();
    }

    private static void farthestJumps() {
        ModuleLoader link = new ModuleLoader();
        Asm.kernel(link, "kern", 508, Asm.jal(5, 4));
        FileWords.of(Asm.jalr(6, 1, 0)).load(link, "modu");
        link.call(NAME, 0, 0, 2);
        Check.same("jal: what is behind it", link.register(5), 512);
        Check.same("jalr: what is behind it", link.register(6), 516);
        traps("jal by -1048576", kernel(Asm.jal(0, -1048576)), 0, 0, 2, 2);
        traps("jal by 1048574", kernel(Asm.jal(0, 1048574)), 0, 0, 1, 2);
        traps("branch by -4096", kernel(Asm.branch(0, 0, 0, -4096)), 0, 0, 2, 2);
        traps("branch by 4094", kernel(Asm.branch(0, 0, 0, 4094)), 0, 0, 1, 2);
        traps("branch by 4092 is in memory", kernel(Asm.branch(0, 0, 0, 4092)), 0, 0, 3, 2);
        ModuleLoader x = kernel(Asm.RET);
        x.symbol(Asm.name("farr"), 0, 512);
        FileWords.of(Asm.branch(0, 0, 0, -512)).load(x, "modu");
        Check.same("a branch by -512", x.call(Asm.name("farr"), 6, 0, 2), 6);
        Check.same("an untaken branch goes to the next one", kernel(Asm.branch(1, 0, 0, 4094), Asm.RET)
            .call(NAME, 4, 0, 2), 4);
    }

    private static void jalrDropsTheLowestBit() {
        Check.same("to 9", kernel(Asm.jalr(0, 10, 0), 0, Asm.RET).call(NAME, 9, 0, 2), 9);
        Check.same("to 4294967293", kernel(Asm.jalr(0, 10, 0)).call(NAME, -3, 0, 1), -3);
        traps("to 10", kernel(Asm.jalr(0, 10, 0), 0, Asm.RET), 10, 0, 1, 2);
        traps("to 11", kernel(Asm.jalr(0, 10, 0), 0, Asm.RET), 11, 0, 1, 2);
        traps("to 4294967295", kernel(Asm.jalr(0, 10, 0), 0, Asm.RET), -1, 0, 1, 2);
    }

    private static void addressesGoRound() {
        for (int imm : new int[] {-2048, -1, 1, 2047}) {
            ModuleLoader x = kernel(Asm.store(2, 11, 10, imm), Asm.i(0x03, 2, 12, 10, imm), Asm.RET);
            x.call(NAME, -imm, imm + 7, 3);
            Check.same("a store to 0 by " + imm, x.peek(0), imm + 7);
            Check.same("a load from 0 by " + imm, x.register(12), imm + 7);
        }
        traps("a load beyond the highest", kernel(Asm.lw(5, 10, 1)), HIGHEST, 0, 5, 1);
        traps("a store beyond the lowest", kernel(Asm.sw(5, 10, -4)), LOWEST, 0, 5, 1);
    }

    private static void partsKeepTheirSigns() {
        int[][] rows = {{0, 0x7F, 0x7F}, {0, 0x80, -128}, {0, 0xFF, -1}, {4, 0x80, 0x80}, {4, 0xFF, 0xFF},
            {1, 0x7FFF, 0x7FFF}, {1, 0x8000, -32768}, {1, 0xFFFF, -1}, {5, 0x8000, 0x8000}, {5, 0xFFFF, 0xFFFF},
            {2, LOWEST, LOWEST}, {2, -1, -1}};
        for (int[] row : rows) {
            ModuleLoader x = kernel(Asm.i(0x03, row[0], 10, 10, 0), Asm.RET);
            x.poke(100, row[1]);
            Check.same("load " + row[0] + " of " + row[1], x.call(NAME, 100, 0, 2), row[2]);
        }
    }

    private static void storesTakeTheLowestBytes() {
        int[][] rows = {{0, 0x100, 0xFFFFFF00}, {0, -1, -1}, {0, 0x180, 0xFFFFFF80}, {1, 0x10000, 0xFFFF0000},
            {1, 0x18000, 0xFFFF8000}, {2, 0x10000, 0x10000}};
        for (int[] row : rows) {
            ModuleLoader x = kernel(Asm.store(row[0], 11, 10, 0), Asm.RET);
            x.poke(100, -1);
            x.call(NAME, 100, row[1], 2);
            Check.same("store " + row[0] + " of " + row[1], x.peek(100), row[2]);
        }
    }

    private static ModuleLoader startingAt(int address) {
        ModuleLoader x = new ModuleLoader();
        x.symbol(NAME, 0, address);
        return x;
    }

    private static void trap1IsNoMultipleOfFour() {
        for (int address : new int[] {1, 2, 3, 4093, 4094, 4095}) {
            traps("trap 1 at " + address, startingAt(address), 0, 0, 1, 1);
        }
        traps("a multiple of 4", startingAt(4), 0, 0, 3, 1);
        traps("jal to no multiple of 4", kernel(Asm.jal(0, 2)), 0, 0, 1, 2);
        traps("branch to no multiple of 4", kernel(Asm.branch(0, 0, 0, 6)), 0, 0, 1, 2);
        Check.same("an untaken one", kernel(Asm.branch(1, 0, 0, 6), Asm.RET).call(NAME, 8, 0, 2), 8);
    }

    private static void trap2IsNotInMemory() {
        for (int address : new int[] {4096, 4100, LOWEST, HIGHEST - 3, -8, -4096}) {
            traps("trap 2 at " + address, startingAt(address), 0, 0, 2, 1);
        }
        traps("4092 is in memory", startingAt(4092), 0, 0, 3, 1);
        traps("0 is in memory", startingAt(0), 0, 0, 3, 1);
    }

    private static void trap3IsNoneOfThese() {
        int[] others = {0, -1, 0x0FF0000F, 0x100F, 0x73, 0x100073, 0x1073, 0x02B50533, 0x02B54533, 0x00A50501, 0x8082,
            0x13 & ~1, 0x13 & ~2, 0x1B, 0x3B, 0x07, 0x27, 0x2F, 0x53};
        for (int word : others) {
            ModuleLoader x = kernel(word, Asm.RET);
            traps("the word " + word, x, 3, 4, 3, 1);
            Check.same("the word " + word + ": register 10", x.register(10), 3);
        }
        for (int kind : new int[] {2, 3}) {
            traps("branch " + kind, kernel(Asm.branch(kind, 10, 10, 8)), 3, 4, 3, 1);
        }
        for (int kind : new int[] {3, 6, 7}) {
            traps("load " + kind, kernel(Asm.i(0x03, kind, 10, 0, 0)), 3, 4, 3, 1);
            traps("store " + kind, kernel(Asm.store(kind, 10, 0, 64)), 3, 4, 3, 1);
            traps("jalr " + kind, kernel(Asm.i(0x67, kind, 10, 1, 0)), 3, 4, 3, 1);
        }
    }

    private static void trap4IsNoMultipleOfItsSize() {
        for (int address = 600; address < 604; address++) {
            for (int kind : LOADS) {
                ModuleLoader x = kernel(Asm.i(0x03, kind, 12, 10, 0), Asm.RET);
                alignment("load " + kind + " at " + address, x, address, 1 << (kind & 3));
            }
            for (int kind = 0; kind < 3; kind++) {
                ModuleLoader x = kernel(Asm.store(kind, 11, 10, 0), Asm.RET);
                alignment("store " + kind + " at " + address, x, address, 1 << kind);
            }
        }
    }

    private static void alignment(String what, ModuleLoader x, int address, int size) {
        if (address % size == 0) {
            Check.same(what, x.call(NAME, address, 9, 2), address);
        } else {
            traps(what, x, address, 9, 4, 1);
        }
    }

    private static void trap5IsNotInMemory() {
        for (int address : new int[] {4096, 8192, LOWEST, -4}) {
            for (int kind : LOADS) {
                traps("load " + kind + " at " + address, kernel(Asm.i(0x03, kind, 12, 10, 0)), address, 0, 5, 1);
            }
            for (int kind = 0; kind < 3; kind++) {
                traps("store " + kind + " at " + address, kernel(Asm.store(kind, 11, 10, 0)), address, 0, 5, 1);
            }
        }
    }

    private static void trap6IsAStoreToProtectedBytes() {
        for (int kind = 0; kind < 3; kind++) {
            int size = 1 << kind;
            ModuleLoader x = kernel(Asm.store(kind, 11, 10, 0), Asm.RET);
            x.poke(508, 0x12345678);
            x.seal();
            FileWords.of(5, 6, 7).guard(8).load(x, "modu");
            for (int address : new int[] {0, 512 - size, 512, 520 - size}) {
                traps("store " + kind + " to " + address, x, address, -1, 6, 1);
            }
            Check.same("a sealed word", x.peek(508), 0x12345678);
            Check.same("a guarded word", x.peek(516), 6);
            x.call(NAME, 520, -1, 2);
            Check.same("store " + kind + " behind the guard", x.peek(520), kind == 2 ? -1 : 7 | (1 << 8 * size) - 1);
        }
        protectedBytesAreReadAndRun();
    }

    private static void protectedBytesAreReadAndRun() {
        ModuleLoader x = kernel(Asm.lw(10, 10, 0), Asm.RET);
        x.seal();
        FileWords.of(Asm.addi(10, 10, 1), Asm.RET).guard(8).exports("modu", 0, 0).load(x, "modu");
        Check.same("a load from sealed bytes", x.call(NAME, 4, 0, 2), Asm.RET);
        Check.same("a load from guarded bytes", x.call(NAME, 516, 0, 2), Asm.RET);
        Check.same("a run of guarded bytes", x.call(Asm.name("modu"), 8, 0, 2), 9);
    }

    private static void theFirstTrapThatHolds() {
        for (int address : new int[] {4097, 4098, 4099, -1, -2, -3, HIGHEST}) {
            traps("1 before 2 at " + address, startingAt(address), 0, 0, 1, 1);
        }
        traps("3 before 4: a load", kernel(Asm.i(0x03, 3, 5, 0, 1)), 0, 0, 3, 1);
        traps("3 before 4: a store", kernel(Asm.store(3, 5, 0, 1)), 0, 0, 3, 1);
        traps("3 before 5", kernel(Asm.store(4, 5, 0, -8)), 0, 0, 3, 1);
        for (int address : new int[] {4097, 4098, 4099, -1, -2, -3}) {
            traps("4 before 5: a load at " + address, kernel(Asm.lw(5, 10, 0)), address, 0, 4, 1);
            traps("4 before 5: a store at " + address, kernel(Asm.sw(5, 10, 0)), address, 0, 4, 1);
        }
        ModuleLoader x = kernel(Asm.sw(5, 10, 0), Asm.store(7, 5, 0, 0));
        x.symbol(Asm.name("more"), 0, 4);
        x.seal();
        traps("4 before 6", x, 1, 0, 4, 1);
        Check.refusesState("3 before 6", () -> x.call(Asm.name("more"), 0, 0, 9));
        Check.same("3 before 6", x.fault(2), 3);
    }

    private static void whatTrapsChangesNothing() {
        int[] traps = {Asm.lw(10, 10, 1), Asm.lw(10, 0, -4), Asm.i(0x03, 3, 10, 0, 0), Asm.sw(11, 0, 1),
            Asm.sw(11, 0, -4), Asm.sw(11, 0, 0), Asm.r(1, 0, 10, 10, 11), Asm.i(0x67, 1, 10, 0, 0), 0};
        for (int word : traps) {
            ModuleLoader x = kernel(word, Asm.RET);
            x.seal();
            Check.refusesState("the word " + word, () -> x.call(NAME, 600, 78, 9));
            for (int r = 0; r < 32; r++) {
                int due = r == 1 ? -4 : r == 2 ? 4096 : r == 10 ? 600 : r == 11 ? 78 : 0;
                Check.same("the word " + word + ": register " + r, x.register(r), due);
            }
            for (int address = 8; address < 640; address += 4) {
                Check.same("the word " + word + ": peek(" + address + ")", x.peek(address), 0);
            }
            Check.same("the word itself", x.peek(0), word);
        }
    }

    private static void aRunBegins() {
        int[] words = new int[64];
        for (int r = 1; r < 32; r++) {
            words[r - 1] = Asm.sw(r, 0, 256 + 4 * r);
        }
        words[31] = Asm.addi(10, 0, 0);
        words[32] = Asm.addi(31, 0, -1);
        words[33] = Asm.RET;
        ModuleLoader x = kernel(words);
        for (int run = 0; run < 2; run++) {
            x.call(NAME, LOWEST + run, -1 - run, 34);
            for (int r = 1; r < 32; r++) {
                int due = r == 1 ? -4 : r == 2 ? 4096 : r == 10 ? LOWEST + run : r == 11 ? -1 - run : 0;
                Check.same("register " + r + " at the beginning", x.peek(256 + 4 * r), due);
            }
        }
        FileWords.of(Asm.sw(10, 2, -4), Asm.sw(11, 2, -8), Asm.addi(10, 0, 0), Asm.RET).init(0).exit(0).load(x, "modu");
        Check.same("register 10 for INIT", x.peek(4092), 0);
        Check.same("register 11 for INIT", x.peek(4088), 0);
        x.call(NAME, 5, 6, 34);
        x.unload(Asm.name("modu"), 4);
        Check.same("register 10 for EXIT", x.peek(4092), 0);
        Check.same("register 11 for EXIT", x.peek(4088), 0);
    }

    private static void aRunEnds() {
        ModuleLoader x = startingAt(-4);
        Check.same("it begins at its end, without fuel", x.call(NAME, LOWEST, 6, 0), LOWEST);
        Check.faults("it begins at its end, without fuel", x, 0, -1, 0, 0, LOWEST);
        Check.same("register 1", x.register(1), -4);
        Check.same("register 2", x.register(2), 4096);
        Check.same("register 11", x.register(11), 6);
        Check.same("with fuel", x.call(NAME, 4, 6, 2000), 4);
        Check.same("it takes none", x.fault(3), 0);
        traps("4294967288 is no end", startingAt(-8), 0, 0, 2, 1);
        traps("4294967293 is no end", startingAt(-3), 0, 0, 1, 1);
        Check.same("what is returned is register 10", kernel(Asm.addi(10, 11, -1), Asm.RET).call(NAME, 9, 0, 2), -1);
    }

    private static void outOfFuel(String what, ModuleLoader x, int fuel) {
        Check.refusesState(what, () -> x.call(NAME, 0, 0, fuel));
        Check.faults(what, x, 9, -1, 0, fuel, 0);
    }

    private static void aRunTakesFuel() {
        ModuleLoader x = kernel(Asm.addi(10, 10, 1), Asm.RET);
        outOfFuel("no fuel", x, 0);
        Check.same("nothing was run", x.register(10), 0);
        outOfFuel("one too few", x, 1);
        Check.same("one was run", x.register(10), 1);
        Check.same("just enough", x.call(NAME, 0, 0, 2), 1);
        Check.same("one too many", x.call(NAME, 0, 0, 3), 1);
        Check.same("as many as it took", x.fault(3), 2);
        outOfFuel("no fuel for a trap", kernel(0), 0);
        outOfFuel("no fuel for a trap behind a jump to no multiple of 4", kernel(Asm.jal(0, 2)), 1);
        outOfFuel("no fuel for a trap behind a jump out of memory", kernel(Asm.jal(0, 4096)), 1);
        outOfFuel("no fuel for where it begins", startingAt(1), 0);
        ModuleLoader y = kernel(Asm.jal(0, 2));
        Check.refusesState("a trap takes the last fuel", () -> y.call(NAME, 0, 0, 2));
        Check.faults("a trap takes the last fuel", y, 8, -1, 1, 2, 0);
        ModuleLoader z = kernel(Asm.jal(0, 0));
        outOfFuel("2000 without an end", z, 2000);
    }

    private static void kernelBytesEndAt511() {
        ModuleLoader x = kernel(Asm.store(0, 11, 10, 0), Asm.RET);
        x.call(NAME, 511, 1, 2);
        Check.same("511 is written before SEALED", x.peek(508), 1 << 24);
        x.seal();
        traps("511 is PROTECTED then", x, 511, 2, 6, 1);
        for (int address : new int[] {512, 3839, 3840, 4095}) {
            x.call(NAME, address, 3, 2);
            Check.same(address + " is not", x.peek(address & ~3) >>> 8 * (address & 3), 3);
        }
    }
}
