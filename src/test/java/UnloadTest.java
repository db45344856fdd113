/** Promise 9: unload. */
public final class UnloadTest {
    private static final int NAME = Asm.name("modu");

    public static void main(String[] args) {
        takesAllOfAModule();
        refusesArguments();
        keepsWhatIsNeeded();
        runsExit();
        staysWhenExitFails();
        comesAgain();
        Check.end();
    }

    private static void takesAllOfAModule() {
        ModuleLoader x = new ModuleLoader();
        x.symbol(Asm.name("kern"), 1, 2);
        FileWords.of(5, 6).exports("aaaa", 1, 0).guard(8).load(x, "frst");
        FileWords.of(7, 8).exports("bbbb", 1, 0).exports("cccc", 1, 4).guard(8).load(x, "modu");
        FileWords.of(9, 10).exports("dddd", 1, 0).guard(8).load(x, "last");
        x.unload(NAME, 0);
        Check.faults("unload", x, 0, -1, 0, 0, 0);
        Check.same("modules", x.count(0), 2);
        Check.same("symbols", x.count(1), 3);
        Check.same("rows", x.count(2), 206);
        Check.same("bbbb", x.lookup(Asm.name("bbbb"), 0), -1);
        Check.same("cccc", x.lookup(Asm.name("cccc"), 0), -1);
        Check.same("aaaa", x.lookup(Asm.name("aaaa"), 0), 512);
        Check.same("dddd", x.lookup(Asm.name("dddd"), 0), 544);
        Check.same("dddd: its module", x.lookup(Asm.name("dddd"), 2), Asm.name("last"));
        Check.same("kern", x.lookup(Asm.name("kern"), 0), 2);
        Check.same("the module", x.module(NAME, 0), -1);
        Check.guarded("the one before it", x, 512, 520);
        Check.no("its first byte", x.isProtected(528));
        Check.no("its last byte", x.isProtected(535));
        Check.yes("the one behind it", x.isProtected(544) && x.isProtected(551));
        Check.same("memory stays", x.peek(528), 7);
        Check.refusesArguments("a call of what has gone", () -> x.call(Asm.name("bbbb"), 1, 2, 3));
    }

    private static void refusesArguments() {
        ModuleLoader x = new ModuleLoader();
        FileWords.of(5).load(x, "modu");
        Check.refusesArguments("fuel -1", () -> x.unload(NAME, -1));
        Check.refusesArguments("fuel 2001", () -> x.unload(NAME, 2001));
        Check.refusesArguments("none such", () -> x.unload(Asm.name("none"), 5));
        Check.refusesArguments("no name", () -> x.unload(0, 5));
        Check.same("modules", x.count(0), 1);
        x.unload(NAME, 2000);
        Check.refusesArguments("it has gone", () -> x.unload(NAME, 5));
    }

    private static void keepsWhatIsNeeded() {
        ModuleLoader x = new ModuleLoader();
        FileWords.of(Asm.sw(2, 2, -4), Asm.RET).exports("aaaa", 1, 0).exit(0).load(x, "modu");
        FileWords.of(5).imports("aaaa", 1).load(x, "user");
        Check.refusesArguments("fuel before the fault", () -> x.unload(NAME, -1));
        Check.refusesState("another one needs it", () -> x.unload(NAME, 9));
        Check.faults("another one needs it", x, 11, -1, 0, 0, 0);
        Check.same("EXIT was not run", x.peek(4092), 0);
        Check.same("modules", x.count(0), 2);
        Check.same("symbols", x.count(1), 1);
        x.unload(Asm.name("user"), 0);
        x.unload(NAME, 2);
        Check.same("EXIT was run", x.peek(4092), 4096);
        Check.same("modules", x.count(0), 0);
    }

    private static void runsExit() {
        ModuleLoader x = new ModuleLoader();
        FileWords.of(0, Asm.r(0, 0, 12, 10, 11), Asm.addi(10, 0, 55), Asm.RET).exit(4).load(x, "modu");
        Check.faults("load does not run EXIT", x, 0, -1, 0, 0, 0);
        x.unload(NAME, 3);
        Check.faults("whatever it returns", x, 0, -1, 0, 3, 55);
        Check.same("registers 10 and 11 were 0", x.register(12), 0);
        Check.same("register 2", x.register(2), 4096);
        Check.same("modules", x.count(0), 0);
    }

    private static void checkStays(String what, ModuleLoader x) {
        Check.same(what + ": modules", x.count(0), 1);
        Check.same(what + ": symbols", x.count(1), 1);
        Check.same(what + ": rows", x.count(2), 206);
        Check.yes(what + ": protected", x.isProtected(519));
        Check.same(what + ": export", x.lookup(Asm.name("aaaa"), 2), NAME);
    }

    private static void staysWhenExitFails() {
        ModuleLoader x = new ModuleLoader();
        FileWords.of(0, Asm.RET, Asm.sw(2, 2, -4), Asm.lw(5, 2, -8), Asm.jalr(0, 5, 0)).exports("aaaa", 1, 4).guard(8)
            .exit(8).load(x, "modu");
        Check.refusesState("a trap", () -> x.unload(NAME, 9));
        Check.faults("a trap", x, 8, -1, 3, 4, 0);
        checkStays("a trap", x);
        Check.same("what it has changed stays", x.peek(4092), 4096);
        Check.refusesState("out of fuel", () -> x.unload(NAME, 2));
        Check.faults("out of fuel", x, 9, -1, 0, 2, 0);
        checkStays("out of fuel", x);
        x.symbol(Asm.name("kern"), 1, 0);
        Asm.kernel(x, "kern", 0, Asm.sw(10, 2, -8), Asm.RET);
        x.call(Asm.name("kern"), 516, 0, 2);
        x.unload(NAME, 4);
        Check.same("EXIT returns at last", x.count(0), 0);
    }

    private static void comesAgain() {
        ModuleLoader x = new ModuleLoader();
        for (int k = 0; k < 5; k++) {
            FileWords file = FileWords.of(k, Asm.RET).exports("aaaa", k, 4).guard(4).exit(4);
            Check.same("load " + k, file.load(x, "modu"), 512);
            Check.same("its check", x.lookup(Asm.name("aaaa"), 1), k);
            Check.same("its word", x.peek(512), k);
            x.unload(NAME, 1);
        }
    }
}
