/** Promises 7 and 8: load and fault, with FAULTS 2 to 10 and what they put back. */
public final class LoadTest {
    private static final int NAME = Asm.name("modu");

    public static void main(String[] args) {
        loadsAModule();
        refusesANameThatIsThere();
        refusesAThirteenthModule();
        looksAtImportsInOrder();
        looksAtExports();
        refusesWithoutRoom();
        blamesTheFirstFault();
        runsInit();
        putsBackWhenInitFails();
        tellsOfTheLatestOnly();
        Check.end();
    }

    private static void loadsAModule() {
        ModuleLoader x = new ModuleLoader();
        x.symbol(Asm.name("kern"), 7, 40);
        FileWords.of(11, 12, 13, 14, 15).imports("kern", 7).exports("aaaa", -9, 16).exports("bbbb", 0, 0).guard(12)
            .feed(x);
        Check.same("load", x.load(NAME, 0), 512);
        Check.faults("load", x, 0, -1, 0, 0, 0);
        Check.same("tape", x.count(4), 0);
        for (int k = 0; k < 5; k++) {
            Check.same("image word " + k, x.peek(512 + 4 * k), 11 + k);
        }
        Check.guarded("load", x, 512, 524);
        Check.same("aaaa: address", x.lookup(Asm.name("aaaa"), 0), 528);
        Check.same("aaaa: check", x.lookup(Asm.name("aaaa"), 1), -9);
        Check.same("aaaa: module", x.lookup(Asm.name("aaaa"), 2), NAME);
        Check.same("bbbb: address", x.lookup(Asm.name("bbbb"), 0), 512);
        Check.same("kern: module", x.lookup(Asm.name("kern"), 2), 0);
        Check.same("symbols", x.count(1), 3);
        Check.same("rows", x.count(2), 206);
        Check.refusesState("an export's name again", () -> x.symbol(Asm.name("aaaa"), 1, 2));
        onlyItsOwnBytesAreWritten();
    }

    private static void onlyItsOwnBytesAreWritten() {
        ModuleLoader x = new ModuleLoader();
        FileWords.of(1, 2, 3, 4).load(x, "frst");
        x.unload(Asm.name("frst"), 0);
        FileWords.of(9).exports("aaaa", 1, 0).load(x, "scnd");
        Check.same("its word", x.peek(512), 9);
        Check.same("the rest of its row", x.peek(516), 2);
    }

    private static void refusesANameThatIsThere() {
        ModuleLoader x = new ModuleLoader();
        FileWords.of(1).load(x, "modu");
        FileWords.of(2).feed(x);
        Check.loadFault("a name again", x, NAME, 0, 2, -1);
        Check.same("modules", x.count(0), 1);
        x.symbol(Asm.name("kern"), 1, 2);
        Check.same("a symbol's name is free", FileWords.of(3).load(x, "kern"), 528);
        FileWords.of(3).exports("modu", 1, 0).load(x, "expo");
        Check.same("a module's name is free for a symbol", x.lookup(NAME, 0), 544);
    }

    private static void refusesAThirteenthModule() {
        ModuleLoader x = new ModuleLoader();
        for (int k = 0; k < 12; k++) {
            Check.same("module " + k, FileWords.of(k).load(x, "mod" + (char) ('a' + k)), 512 + 16 * k);
        }
        FileWords.of(2).feed(x);
        Check.loadFault("a thirteenth one", x, NAME, 0, 2, -1);
        Check.same("modules", x.count(0), 12);
        x.unload(Asm.name("modc"), 0);
        Check.same("room for one again", FileWords.of(2).load(x, "modu"), 544);
    }

    private static ModuleLoader withKernel() {
        ModuleLoader x = new ModuleLoader();
        x.symbol(Asm.name("kena"), 1, 40);
        x.symbol(Asm.name("kenb"), 2, 44);
        return x;
    }

    private static void looksAtImportsInOrder() {
        ModuleLoader x = withKernel();
        FileWords.of(1).imports("kena", 1).imports("none", 1).imports("kenb", 3).feed(x);
        Check.loadFault("missing, then a check", x, NAME, 0, 3, 1);
        FileWords.of(1).imports("kenb", 3).imports("none", 1).feed(x);
        Check.loadFault("a check, then missing", x, NAME, 0, 4, 0);
        FileWords.of(1).imports("kena", 1).imports("kenb", 2).imports("kena", 2).feed(x);
        Check.loadFault("the same one with another check", x, NAME, 0, 4, 2);
        FileWords.of(1).imports("self", 1).exports("self", 1, 0).feed(x);
        Check.loadFault("its own export", x, NAME, 0, 3, 0);
        Check.same("nothing written", x.peek(512), 0);
        Check.same("modules", x.count(0), 0);
    }

    private static void looksAtExports() {
        ModuleLoader x = withKernel();
        FileWords.of(1).exports("aaaa", 1, 0).exports("kenb", 1, 0).exports("kena", 1, 0).feed(x);
        Check.loadFault("the kernel's names", x, NAME, 0, 5, 1);
        FileWords.of(1).exports("aaaa", 1, 0).load(x, "modu");
        FileWords.of(1).exports("bbbb", 1, 0).exports("cccc", 1, 0).exports("aaaa", 1, 0).feed(x);
        Check.loadFault("a module's name", x, Asm.name("next"), 0, 5, 2);
        for (int k = 0; k < 35; k++) {
            x.symbol(Asm.name("sy" + (char) ('a' + k / 26) + (char) ('a' + k % 26)), k, k);
        }
        Check.same("symbols", x.count(1), 38);
        FileWords.of(1).exports("bbbb", 1, 0).exports("cccc", 1, 0).exports("dddd", 1, 0).exports("eeee", 1, 0).feed(x);
        Check.loadFault("the one with which there are 41", x, Asm.name("next"), 0, 5, 2);
        FileWords.of(1).exports("bbbb", 1, 0).exports("cccc", 1, 0).exports("dddd", 1, 0).exports("aaaa", 1, 0).feed(x);
        Check.loadFault("a name that is there comes first", x, Asm.name("next"), 0, 5, 3);
        FileWords.of(1).exports("bbbb", 1, 0).exports("cccc", 1, 0).load(x, "next");
        Check.same("just 40", x.count(1), 40);
        FileWords.of(1).exports("dddd", 1, 0).feed(x);
        Check.loadFault("no place at all", x, Asm.name("more"), 0, 5, 0);
        FileWords.of(1).load(x, "more");
        Check.same("without exports", x.count(0), 3);
    }

    private static ModuleLoader fullOfModules() {
        ModuleLoader x = withKernel();
        for (int k = 0; k < 6; k++) {
            FileWords.zeros(512).load(x, "big" + (char) ('a' + k));
        }
        return x;
    }

    private static void refusesWithoutRoom() {
        ModuleLoader x = fullOfModules();
        Check.same("rows", x.count(2), 16);
        FileWords.zeros(260).feed(x);
        Check.loadFault("17 rows", x, NAME, 0, 6, -1);
        Check.same("16 rows", FileWords.zeros(256).load(x, "modu"), 3584);
        FileWords.of(1).feed(x);
        Check.loadFault("a full arena", x, Asm.name("next"), 0, 6, -1);
        Check.same("behind the arena", x.peek(3840), 0);
        Check.same("rows", x.count(2), 0);
    }

    private static void blamesTheFirstFault() {
        ModuleLoader x = fullOfModules();
        FileWords full = FileWords.zeros(512).imports("none", 1).exports("kena", 1, 0).place(4, 0, -1, 1);
        full.feed(x);
        x.feedByte(0);
        Check.loadFault("1 before all", x, Asm.name("biga"), 0, 1, -1);
        full.feed(x);
        Check.loadFault("2 before 3", x, Asm.name("biga"), 0, 2, -1);
        full.feed(x);
        Check.loadFault("3 before 5", x, NAME, 0, 3, 0);
        FileWords.zeros(512).imports("kena", 2).exports("kena", 1, 0).place(4, 0, -1, 1).feed(x);
        Check.loadFault("4 before 5", x, NAME, 0, 4, 0);
        FileWords.zeros(512).imports("kena", 1).exports("kena", 1, 0).place(4, 0, -1, 1).feed(x);
        Check.loadFault("5 before 6", x, NAME, 0, 5, 0);
        FileWords.zeros(512).imports("kena", 1).exports("aaaa", 1, 0).place(4, 0, -1, 1).feed(x);
        Check.loadFault("6 before 7", x, NAME, 0, 6, -1);
        FileWords.zeros(16).imports("kena", 1).exports("aaaa", 1, 0).place(4, 0, -1, 1).init(0).feed(x);
        Check.loadFault("7 before 8", x, NAME, 9, 7, 0);
        Check.same("nothing was run", x.fault(3), 0);
        Check.same("symbols", x.count(1), 2);
    }

    private static void runsInit() {
        ModuleLoader x = new ModuleLoader();
        FileWords file = FileWords.of(99, Asm.r(0, 0, 12, 10, 11), Asm.addi(5, 0, 7), Asm.sw(5, 2, -4), Asm.RET)
            .init(4).guard(20).exports("aaaa", 1, 0);
        Check.same("load", file.load(x, "modu", 4), 512);
        Check.faults("load", x, 0, -1, 0, 4, 0);
        Check.same("what it wrote", x.peek(4092), 7);
        Check.same("registers 10 and 11 were 0", x.register(12), 0);
        Check.same("register 5", x.register(5), 7);
        Check.same("modules", x.count(0), 1);
        FileWords.of(0).load(x, "next");
        Check.faults("a load that runs nothing", x, 0, -1, 0, 0, 0);
        Check.same("register 5 stays", x.register(5), 7);
        initSeesTheMendedImage();
    }

    private static void initSeesTheMendedImage() {
        ModuleLoader x = new ModuleLoader();
        Asm.kernel(x, "kern", 16, Asm.addi(6, 6, 33), Asm.jalr(0, 7, 0));
        FileWords.of(Asm.jal(7, 0), Asm.RET).imports("kern", 0).place(4, 0, 0, 0).init(0).load(x, "modu");
        Check.same("INIT called the kernel", x.register(6), 33);
    }

    private static ModuleLoader withNeighbour() {
        ModuleLoader x = withKernel();
        x.seal();
        FileWords.of(1, 2).exports("aaaa", 1, 0).guard(4).load(x, "neig");
        return x;
    }

    private static void checkPutBack(String what, ModuleLoader x) {
        Check.same(what + ": modules", x.count(0), 1);
        Check.same(what + ": symbols", x.count(1), 3);
        Check.same(what + ": rows", x.count(2), 207);
        Check.same(what + ": rows together", x.count(3), 207);
        Check.same(what + ": at(1)", x.at(1), -1);
        Check.same(what + ": module", x.module(NAME, 0), -1);
        Check.same(what + ": export", x.lookup(Asm.name("bbbb"), 0), -1);
        Check.same(what + ": needed", x.module(Asm.name("neig"), 3), 0);
        Check.guarded(what, x, 480, 516);
    }

    private static FileWords failing(int... words) {
        return FileWords.of(words).imports("aaaa", 1).exports("bbbb", 2, 4).guard(8).init(0).place(0, 4, 0, 0);
    }

    private static void putsBackWhenInitFails() {
        ModuleLoader x = withNeighbour();
        failing(Asm.sw(0, 0, 1024), 0).feed(x);
        Check.loadFault("a trap", x, NAME, 9, 8, -1);
        Check.faults("a trap", x, 8, -1, 3, 2, 0);
        checkPutBack("a trap", x);
        Check.same("memory stays", x.peek(528), Asm.sw(0, 0, 1024));
        Check.same("and mended", x.peek(532), 512);
        failing(Asm.addi(5, 5, 1), 0, Asm.RET).place(0, 4, -1, 99).feed(x);
        Check.loadFault("out of fuel", x, NAME, 1, 9, -1);
        Check.faults("out of fuel", x, 9, -1, 0, 1, 0);
        checkPutBack("out of fuel", x);
        failing(Asm.addi(10, 0, -5), 0, Asm.RET).place(0, 4, -1, Asm.addi(6, 0, 1) - 528).feed(x);
        Check.loadFault("it returns -5", x, NAME, 3, 10, -1);
        Check.faults("it returns -5", x, 10, -1, 0, 3, -5);
        checkPutBack("it returns -5", x);
        failing(Asm.auipc(5, 0), Asm.sw(0, 5, 4), Asm.RET).guard(12).place(0, 4, -1, Asm.sw(0, 5, 4) - 528).feed(x);
        Check.loadFault("a store to its own guard", x, NAME, 3, 8, -1);
        Check.faults("a store to its own guard", x, 8, -1, 6, 2, 0);
        checkPutBack("a store to its own guard", x);
        x.unload(Asm.name("neig"), 0);
        Check.same("nobody needs it", x.count(0), 0);
    }

    private static void tellsOfTheLatestOnly() {
        ModuleLoader x = withKernel();
        FileWords.of(1).imports("none", 1).feed(x);
        Check.loadFault("a fault", x, NAME, 0, 3, 0);
        Check.refusesArguments("a load without a name", () -> x.load(5, 5));
        Check.refusesArguments("an unload of none", () -> x.unload(NAME, 5));
        Check.refusesArguments("a call of none", () -> x.call(NAME, 1, 2, 5));
        Check.faults("refused by its arguments", x, 3, 0, 0, 0, 0);
        FileWords.of(Asm.RET, 0).exports("good", 0, 0).exports("badd", 0, 4).load(x, "modu");
        Check.faults("a load without a fault", x, 0, -1, 0, 0, 0);
        Check.refusesState("a call that traps", () -> x.call(Asm.name("badd"), 4, 5, 6));
        Check.faults("a call that traps", x, 8, -1, 3, 1, 0);
        x.call(Asm.name("good"), 4, 5, 6);
        Check.faults("a call without a fault", x, 0, -1, 0, 1, 4);
        x.unload(NAME, 0);
        Check.faults("an unload without a fault", x, 0, -1, 0, 0, 0);
        FileWords.of(0).init(0).feed(x);
        Check.loadFault("an INIT that traps", x, NAME, 5, 8, -1);
        FileWords.of(0).load(x, "modu");
        Check.faults("nothing was run this time", x, 0, -1, 0, 0, 0);
    }
}
