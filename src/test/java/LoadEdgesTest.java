/** The edges that the term A LOAD and promises 7, 8 and 9 name: what is full, what is refused, and what is put back. */
public final class LoadEdgesTest {
    private static final int NAME = Asm.name("modu");
    private static final int NEXT = Asm.name("next");
    private static final int LOWEST = Integer.MIN_VALUE;

    public static void main(String[] args) {
        twelveModulesAreThere();
        importsAreSymbols();
        checksAreEqual();
        importsComeInOrder();
        exportsAreNew();
        fortySymbolsAreThere();
        rowsAreJustEnough();
        faultsOneToSevenWriteNothing();
        theTapeIsEmptyThen();
        fuelIsAtMost2000();
        initReturnsZero();
        initHasFuel();
        theLastWordMayBeInitAndExit();
        initTraps();
        initHasItsGuard();
        imagesMayHoldNames();
        allIsPutBack();
        faultsAreOfTheLatest();
        otherQuestionsOfFaultAreNone();
        unloadIsRefused();
        exitHasFuel();
        exitReturnsAnything();
        exitHasItsGuard();
        neededOnesStay();
        Check.end();
    }

    private static String letters(String start, int k) {
        return start + (char) ('a' + k / 26) + (char) ('a' + k % 26);
    }

    private static ModuleLoader withSymbols(int number) {
        ModuleLoader x = new ModuleLoader();
        for (int k = 0; k < number; k++) {
            x.symbol(Asm.name(letters("sy", k)), k, 4 * k);
        }
        return x;
    }

    private static ModuleLoader withModules(int number) {
        ModuleLoader x = new ModuleLoader();
        for (int k = 0; k < number; k++) {
            FileWords.of(k + 1).load(x, letters("mo", k));
        }
        return x;
    }

    private static void loadFault(String what, ModuleLoader x, FileWords file, int fuel, int fault, int which) {
        file.feed(x);
        Check.loadFault(what, x, NAME, fuel, fault, which);
    }

    private static void twelveModulesAreThere() {
        ModuleLoader x = withModules(11);
        Check.same("the twelfth", FileWords.of(9).load(x, "modu"), 512 + 16 * 11);
        FileWords.of(9).feed(x);
        Check.loadFault("a thirteenth", x, NEXT, 0, 2, -1);
        FileWords.of(9).feed(x);
        Check.loadFault("a thirteenth, of a name that is there", x, NAME, 0, 2, -1);
        FileWords.of(9).exports("expo", 0, 0).imports("none", 0).feed(x);
        Check.loadFault("2 before 3", x, NEXT, 0, 2, -1);
        Check.same("modules", x.count(0), 12);
        Check.same("symbols", x.count(1), 0);
        x.unload(NAME, 0);
        FileWords.of(1).init(0).feed(x);
        Check.loadFault("one that fails", x, NEXT, 1, 8, -1);
        Check.same("does not count", FileWords.of(9).load(x, "modu"), 512 + 16 * 11);
        ModuleLoader y = withModules(1);
        FileWords.of(9).feed(y);
        Check.loadFault("its name when few are there", y, Asm.name("moaa"), 0, 2, -1);
    }

    private static void importsAreSymbols() {
        ModuleLoader x = withSymbols(0);
        loadFault("no symbol at all", x, FileWords.of(1).imports("syaa", 0), 0, 3, 0);
        FileWords.of(1).exports("expo", 0, 0).load(x, "modu");
        FileWords.of(1).imports("modu", 0).feed(x);
        Check.loadFault("a module's name is no symbol", x, NEXT, 0, 3, 0);
        x.unload(NAME, 0);
        loadFault("a symbol that has gone", x, FileWords.of(1).imports("expo", 0), 0, 3, 0);
        loadFault("its own export", x, FileWords.of(1).imports("expo", 0).exports("expo", 0, 0), 0, 3, 0);
        FileWords eight = FileWords.of(1);
        ModuleLoader y = withSymbols(7);
        for (int k = 0; k < 8; k++) {
            eight.imports(letters("sy", k), k);
        }
        loadFault("only the last one", y, eight, 0, 3, 7);
    }

    private static void checksAreEqual() {
        for (int bit = 0; bit < 32; bit++) {
            ModuleLoader x = new ModuleLoader();
            x.symbol(Asm.name("kern"), 0x5A5A5A5A, 0);
            loadFault("bit " + bit, x, FileWords.of(1).imports("kern", 0x5A5A5A5A ^ 1 << bit), 0, 4, 0);
        }
        FileWords eight = FileWords.of(1);
        for (int k = 0; k < 8; k++) {
            eight.imports(letters("sy", k), k == 7 ? -1 : k);
        }
        loadFault("only the last one", withSymbols(8), eight, 0, 4, 7);
    }

    private static void importsComeInOrder() {
        ModuleLoader x = withSymbols(3);
        loadFault("4 of import 0, 3 of import 1", x, FileWords.of(1).imports("syaa", 9).imports("none", 0), 0, 4, 0);
        loadFault("3 of import 0, 4 of import 1", x, FileWords.of(1).imports("none", 0).imports("syaa", 9), 0, 3, 0);
        loadFault("4 of import 1, 3 of import 2", x,
            FileWords.of(1).imports("syac", 2).imports("syab", 9).imports("none", 0), 0, 4, 1);
        loadFault("both before 5", x, FileWords.of(1).imports("syaa", 9).exports("syab", 0, 0), 0, 4, 0);
    }

    private static FileWords withExports(int number) {
        FileWords file = FileWords.of(1, 2);
        for (int k = 0; k < number; k++) {
            file.exports(letters("ex", k), k, 4);
        }
        return file;
    }

    private static void exportsAreNew() {
        ModuleLoader x = withSymbols(3);
        loadFault("only the last one", x, withExports(7).exports("syac", 0, 0), 0, 5, 7);
        loadFault("the first of two", x, FileWords.of(1).exports("expo", 0, 0).exports("syab", 0, 0)
            .exports("syaa", 0, 0), 0, 5, 1);
        loadFault("what it imports", x, FileWords.of(1).imports("syaa", 0).exports("syaa", 0, 0), 0, 5, 0);
        FileWords.of(1).exports("expo", 0, 0).load(x, "modu");
        FileWords.of(1).exports("expo", 0, 0).feed(x);
        Check.loadFault("a module's", x, NEXT, 0, 5, 0);
        Check.same("a module's own name is free", FileWords.of(1).exports("next", 0, 0).load(x, "next"), 528);
    }

    private static void fortySymbolsAreThere() {
        for (int there = 32; there <= 40; there++) {
            ModuleLoader x = withSymbols(there);
            for (int coming = 0; coming <= 8; coming++) {
                if (there + coming > 40) {
                    loadFault(there + " and " + coming, x, withExports(coming), 0, 5, 40 - there);
                    Check.same(there + " and " + coming + ": symbols", x.count(1), there);
                } else {
                    Check.same(there + " and " + coming, withExports(coming).load(x, "modu"), 512);
                    Check.same(there + " and " + coming + ": symbols", x.count(1), there + coming);
                    x.unload(NAME, 0);
                    Check.same("and without them", x.count(1), there);
                }
            }
        }
        loadFault("a name that is there comes first", withSymbols(39), withExports(7).exports("syaa", 0, 0), 0, 5, 7);
        ModuleLoader x = withSymbols(32);
        withExports(8).load(x, "modu");
        for (int k = 0; k < 8; k++) {
            Check.same("check of export " + k, x.lookup(Asm.name(letters("ex", k)), 1), k);
            Check.same("address of export " + k, x.lookup(Asm.name(letters("ex", k)), 0), 516);
        }
        Check.refusesState("a 41st symbol of the kernel", () -> x.symbol(Asm.name("more"), 0, 0));
    }

    /** To fill the arena takes more than 512 calls; what those answer is free, but it should be told here too. */
    private static void rowsAreJustEnough() {
        ModuleLoader x = new ModuleLoader();
        for (int k = 0; k < 6; k++) {
            FileWords.zeros(512).load(x, letters("mo", k));
        }
        FileWords large = FileWords.zeros(260).init(0).guard(4).exports("expo", 0, 0).place(0, 0, -1, 5);
        loadFault("one row too many", x, large, 9, 6, -1);
        Check.faults("one row too many", x, 6, -1, 0, 0, 0);
        Check.same("nothing is written", x.peek(3584), 0);
        Check.same("no symbol", x.count(1), 0);
        Check.no("not PROTECTED", x.isProtected(3584));
        Check.same("just enough", FileWords.zeros(244).load(x, "modu"), 3584);
        Check.same("rows", x.count(2), 0);
        FileWords.of(5).feed(x);
        Check.loadFault("one row, and none there", x, NEXT, 0, 6, -1);
        x.unload(Asm.name("moab"), 0);
        x.unload(Asm.name("moad"), 0);
        Check.same("the lowest rows", FileWords.zeros(500).load(x, "next"), 1024);
        Check.same("the next ones", FileWords.zeros(16).load(x, "more"), 2048);
        FileWords.zeros(512).feed(x);
        Check.loadFault("31 rows together", x, Asm.name("last"), 0, 6, -1);
        Check.same("31 rows for 31", FileWords.zeros(484).load(x, "last"), 2064);
    }

    private static ModuleLoader beforeAFault() {
        ModuleLoader x = new ModuleLoader();
        Asm.kernel(x, "kern", 0, Asm.addi(20, 10, 5), Asm.sw(11, 10, 0), Asm.RET);
        FileWords.of(8, 9).exports("expo", 3, 4).guard(4).load(x, "ther");
        for (int address = 528; address < 560; address += 4) {
            x.call(Asm.name("kern"), address, ~address, 3);
        }
        return x;
    }

    private static void unchanged(String what, ModuleLoader x, FileWords file, int name, int fault, int which) {
        file.feed(x);
        Check.loadFault(what, x, name, 2000, fault, which);
        Check.faults(what, x, fault, which, 0, 0, 0);
        Check.same(what + ": the first module", x.peek(512), 8);
        for (int address = 528; address < 560; address += 4) {
            Check.same(what + ": peek(" + address + ")", x.peek(address), ~address);
        }
        Check.same(what + ": register 20", x.register(20), 561);
        Check.same(what + ": modules", x.count(0), 1);
        Check.same(what + ": symbols", x.count(1), 2);
        Check.same(what + ": rows", x.count(2), 207);
        Check.same(what + ": lookup", x.lookup(Asm.name("newe"), 0), -1);
        Check.same(what + ": its module", x.lookup(Asm.name("expo"), 2), Asm.name("ther"));
        Check.same(what + ": needed", x.module(Asm.name("ther"), 3), 0);
        Check.yes(what + ": protected", x.isProtected(512) && x.isProtected(515));
        Check.no(what + ": not protected", x.isProtected(516) || x.isProtected(528) || x.isProtected(0));
    }

    private static FileWords nearlyGood() {
        return FileWords.of(Asm.addi(20, 0, 1), Asm.RET).imports("expo", 3).guard(8).init(0);
    }

    private static void faultsOneToSevenWriteNothing() {
        FileWords twice = nearlyGood().exports("newe", 0, 0).exports("newe", 0, 0);
        unchanged("1", beforeAFault(), twice, NAME, 1, -1);
        unchanged("2", beforeAFault(), nearlyGood().exports("newe", 0, 0), Asm.name("ther"), 2, -1);
        unchanged("3", beforeAFault(), nearlyGood().exports("newe", 0, 0).imports("none", 0), NAME, 3, 1);
        unchanged("4", beforeAFault(), nearlyGood().exports("newe", 0, 0).imports("expo", 4), NAME, 4, 1);
        unchanged("5", beforeAFault(), nearlyGood().exports("newe", 0, 0).exports("expo", 0, 0), NAME, 5, 1);
        unchanged("7", beforeAFault(), nearlyGood().exports("newe", 0, 0).place(0, 0, -1, 0).place(4, 0, -1, 1), NAME,
            7, 1);
    }

    private static void theTapeIsEmptyThen() {
        ModuleLoader x = new ModuleLoader();
        x.feed(1);
        Check.refusesState("a fault", () -> x.load(NAME, 0));
        Check.same("the tape behind a fault", x.count(4), 0);
        FileWords.of(Asm.addi(10, 0, 1), Asm.RET).init(0).feed(x);
        Check.refusesState("a fault of INIT", () -> x.load(NAME, 9));
        Check.same("the tape behind a fault of INIT", x.count(4), 0);
        FileWords.of(1).load(x, "modu");
        Check.same("the tape behind a load", x.count(4), 0);
        Check.same("a byte comes first then", x.feedByte(1), 1);
        FileWords.of(1).feed(x);
        int bytes = x.count(4);
        Check.refusesArguments("no name", () -> x.load(NAME + 128, 0));
        Check.refusesArguments("no fuel", () -> x.load(NAME, -1));
        Check.refusesArguments("neither", () -> x.load(-1, -1));
        Check.same("the tape stays", x.count(4), bytes);
    }

    private static void fuelIsAtMost2000() {
        for (int fuel : new int[] {-1, 2001, LOWEST, Integer.MAX_VALUE}) {
            ModuleLoader x = new ModuleLoader();
            FileWords.of(Asm.RET).exports("expo", 0, 0).exit(0).load(x, "ther");
            FileWords.of(1).feed(x);
            Check.refusesArguments("load with " + fuel, () -> x.load(NAME, fuel));
            Check.refusesArguments("unload with " + fuel, () -> x.unload(Asm.name("ther"), fuel));
            Check.refusesArguments("call with " + fuel, () -> x.call(Asm.name("expo"), 1, 2, fuel));
            Check.same("modules", x.count(0), 1);
            Check.same("tape", x.count(4), 36);
        }
        for (int fuel : new int[] {1, 1999, 2000}) {
            ModuleLoader x = new ModuleLoader();
            FileWords.of(Asm.RET).exports("expo", 0, 0).init(0).exit(0).feed(x);
            Check.same("load with " + fuel, x.load(NAME, fuel), 512);
            Check.same("call with " + fuel, x.call(Asm.name("expo"), 1, 2, fuel), 1);
            x.unload(NAME, fuel);
            Check.same("unload with " + fuel, x.count(0), 0);
        }
        ModuleLoader x = new ModuleLoader();
        FileWords.of(1).feed(x);
        Check.same("load of what runs nothing with 0", x.load(NAME, 0), 512);
        x.unload(NAME, 0);
        Check.same("unload of what runs nothing with 0", x.count(0), 0);
    }

    private static void initReturnsZero() {
        for (int value : new int[] {1, -1, 11, LOWEST, Integer.MAX_VALUE, 1 << 16}) {
            int[] li = Asm.li(10, value);
            ModuleLoader x = new ModuleLoader();
            loadFault("INIT returns " + value, x, FileWords.of(li[0], li[1], Asm.RET).init(0), 3, 10, -1);
            Check.faults("INIT returns " + value, x, 10, -1, 0, 3, value);
            Check.same("modules", x.count(0), 0);
        }
        ModuleLoader x = new ModuleLoader();
        Check.same("INIT returns 0", FileWords.of(Asm.addi(11, 0, 5), Asm.RET).init(0).load(x, "modu", 2), 512);
        Check.faults("INIT returns 0", x, 0, -1, 0, 2, 0);
    }

    private static void initHasFuel() {
        FileWords file = FileWords.of(Asm.RET, Asm.addi(5, 0, 1), Asm.addi(10, 0, 1), Asm.addi(10, 0, 0), Asm.RET).init(4);
        for (int fuel = 0; fuel < 4; fuel++) {
            ModuleLoader x = new ModuleLoader();
            loadFault("INIT with fuel " + fuel, x, file, fuel, 9, -1);
            Check.faults("INIT with fuel " + fuel, x, 9, -1, 0, fuel, 0);
            Check.same("register 5", x.register(5), fuel == 0 ? 0 : 1);
            Check.same("register 2", x.register(2), 4096);
            Check.same("the image stays", x.peek(512), Asm.RET);
            Check.same("modules", x.count(0), 0);
        }
        ModuleLoader x = new ModuleLoader();
        Check.same("INIT with just enough", file.load(x, "modu", 4), 512);
        Check.faults("INIT with just enough", x, 0, -1, 0, 4, 0);
    }

    private static void theLastWordMayBeInitAndExit() {
        for (int size : new int[] {4, 16, 20, 512}) {
            int[] words = new int[size / 4];
            words[words.length - 1] = Asm.RET;
            ModuleLoader x = new ModuleLoader();
            FileWords.of(words).init(size - 4).exit(size - 4).guard(size).load(x, "modu", 1);
            Check.faults("INIT at the end of " + size, x, 0, -1, 0, 1, 0);
            x.unload(NAME, 1);
            Check.faults("EXIT at the end of " + size, x, 0, -1, 0, 1, 0);
            Check.same("modules", x.count(0), 0);
        }
    }

    private static void initTraps() {
        FileWords file = FileWords.of(Asm.addi(5, 0, 1), 0).init(0);
        ModuleLoader x = new ModuleLoader();
        loadFault("out of fuel before the trap", x, file, 1, 9, -1);
        Check.faults("out of fuel before the trap", x, 9, -1, 0, 1, 0);
        loadFault("fuel for the trap", x, file, 2, 8, -1);
        Check.faults("fuel for the trap", x, 8, -1, 3, 2, 0);
        int[] words = {Asm.jal(0, 2), Asm.jal(0, -520), 0, Asm.lw(5, 0, 2), Asm.lw(5, 2, 0)};
        for (int k = 0; k < words.length; k++) {
            ModuleLoader y = new ModuleLoader();
            loadFault("trap " + (k + 1), y, FileWords.of(words[k]).init(0), 9, 8, -1);
            Check.same("trap " + (k + 1), y.fault(2), k + 1);
        }
    }

    private static void initHasItsGuard() {
        int[] image = {Asm.auipc(5, 0), Asm.store(0, 2, 5, 0), Asm.RET, 7, 8};
        for (int guard = 0; guard <= 20; guard += 4) {
            for (int target : new int[] {guard - 1, guard}) {
                if (target < 12 || target > 19) {
                    continue;
                }
                int[] words = image.clone();
                words[1] = Asm.store(0, 2, 5, target);
                ModuleLoader x = new ModuleLoader();
                FileWords file = FileWords.of(words).init(0).guard(guard);
                if (target < guard) {
                    loadFault("INIT writes its last guarded byte", x, file, 9, 8, -1);
                    Check.faults("INIT writes its last guarded byte", x, 8, -1, 6, 2, 0);
                    Check.no("and no byte is PROTECTED", x.isProtected(512 + target));
                } else {
                    Check.same("INIT writes behind its guard", file.load(x, "modu", 3), 512);
                    Check.no("not PROTECTED", x.isProtected(512 + target));
                    Check.yes("PROTECTED", x.isProtected(512 + guard - 1));
                }
            }
        }
    }

    /** Names that lie in the image, right before the parts that have names, are no names of the file. */
    private static void imagesMayHoldNames() {
        int expo = Asm.name("expo");
        int mine = Asm.name("mine");
        ModuleLoader x = new ModuleLoader();
        FileWords.of(1).exports("expo", 0, 0).load(x, "ther");
        x.symbol(NEXT, 0, 0);
        Check.same("a symbol of a module", FileWords.of(expo, expo, expo, expo).exports("mine", 0, 0).load(x, "modu"), 528);
        Check.same("it is not exported", x.module(NAME, 2), 1);
        x.unload(NAME, 0);
        FileWords.of(mine, mine, mine, mine).exports("mine", 0, 0).load(x, "modu");
        Check.same("its own symbol", x.lookup(mine, 2), NAME);
        x.unload(NAME, 0);
        FileWords.of(expo, expo, expo, expo).imports("next", 0).load(x, "modu");
        Check.same("it is not imported", x.module(NAME, 4), 0);
        Check.same("it is not needed", x.module(Asm.name("ther"), 3), 0);
    }

    private static void allIsPutBack() {
        int[][] failing = {{0, 8, 9}, {Asm.jal(0, 0), 9, 5}, {Asm.addi(10, 0, 3), 10, 2}};
        for (int[] row : failing) {
            ModuleLoader x = withSymbols(36);
            FileWords.of(1, 2).exports("expo", 7, 4).guard(8).load(x, "befo");
            FileWords.of(1, 2).load(x, "gone");
            FileWords.of(1, 2).guard(8).load(x, "behi");
            x.unload(Asm.name("gone"), 0);
            String what = "FAULT " + row[1];
            FileWords file = FileWords.of(row[0], Asm.RET, 55).imports("expo", 7).exports("newa", 0, 0)
                .exports("newb", 0, 0).exports("newc", 0, 0).guard(12).init(0).place(0, 8, 0, 1);
            for (int again = 0; again < 3; again++) {
                loadFault(what, x, file, row[2], row[1], -1);
                putBack(what, x);
            }
            Check.same(what + ": the image stays", x.peek(528), row[0]);
            Check.same(what + ": and is mended", x.peek(536), 517);
            x.unload(Asm.name("befo"), 0);
            Check.same(what + ": nobody needs it", x.count(0), 1);
        }
    }

    private static void putBack(String what, ModuleLoader x) {
        Check.same(what + ": modules", x.count(0), 2);
        Check.same(what + ": symbols", x.count(1), 37);
        Check.same(what + ": rows", x.count(2), 206);
        Check.same(what + ": rows together", x.count(3), 205);
        Check.same(what + ": at(1)", x.at(1), Asm.name("behi"));
        Check.same(what + ": module", x.module(NAME, 0), -1);
        Check.same(what + ": newa", x.lookup(Asm.name("newa"), 0), -1);
        Check.same(what + ": newc", x.lookup(Asm.name("newc"), 2), -1);
        Check.same(what + ": expo", x.lookup(Asm.name("expo"), 0), 516);
        Check.same(what + ": needed", x.module(Asm.name("befo"), 3), 0);
        Check.yes(what + ": before it", x.isProtected(512) && x.isProtected(519));
        Check.no(what + ": its own", x.isProtected(528) || x.isProtected(539));
        Check.yes(what + ": behind it", x.isProtected(544) && x.isProtected(551));
    }

    private static void faultsAreOfTheLatest() {
        ModuleLoader x = new ModuleLoader();
        Check.faults("before any", x, 0, -1, 0, 0, 0);
        Check.refusesArguments("load", () -> x.load(0, 0));
        Check.refusesArguments("unload", () -> x.unload(NAME, 0));
        Check.refusesArguments("call", () -> x.call(NAME, 0, 0, 0));
        Check.faults("behind refused ones", x, 0, -1, 0, 0, 0);
        FileWords.of(Asm.addi(10, 10, 1), Asm.RET, 0).exports("good", 0, 0).exports("trap", 0, 8).exit(0).load(x, "modu");
        x.call(Asm.name("good"), 41, 0, 2);
        keepsItsReport("a call", x, 0, -1, 0, 2, 42);
        Check.refusesState("a trap", () -> x.call(Asm.name("trap"), 41, 0, 2));
        keepsItsReport("a trap", x, 8, -1, 3, 1, 0);
        Check.refusesState("out of fuel", () -> x.call(Asm.name("good"), 41, 0, 1));
        keepsItsReport("out of fuel", x, 9, -1, 0, 1, 0);
        FileWords.of(1).imports("good", 0).imports("none", 0).feed(x);
        Check.refusesState("an import", () -> x.load(NEXT, 0));
        keepsItsReport("an import", x, 3, 1, 0, 0, 0);
        FileWords.of(1).imports("good", 0).load(x, "next");
        keepsItsReport("a load", x, 0, -1, 0, 0, 0);
        Check.refusesState("a needed one", () -> x.unload(NAME, 9));
        keepsItsReport("a needed one", x, 11, -1, 0, 0, 0);
        x.unload(NEXT, 0);
        keepsItsReport("an unload", x, 0, -1, 0, 0, 0);
        x.unload(NAME, 2);
        keepsItsReport("an unload that runs", x, 0, -1, 0, 2, 1);
        FileWords.of(0).init(0).feed(x);
        Check.refusesState("a trap of INIT", () -> x.load(NAME, 3));
        keepsItsReport("a trap of INIT", x, 8, -1, 3, 1, 0);
        Check.refusesState("an empty tape", () -> x.load(NAME, 3));
        keepsItsReport("nothing is left of that trap", x, 1, -1, 0, 0, 0);
    }

    /** No other call, and none that is refused by its arguments, changes what fault() tells. */
    private static void keepsItsReport(String what, ModuleLoader x, int... due) {
        Check.faults(what, x, due);
        Check.refusesArguments("load", () -> x.load(NAME, 2001));
        Check.refusesArguments("unload", () -> x.unload(Asm.name("none"), 0));
        Check.refusesArguments("call", () -> x.call(Asm.name("none"), 0, 0, 0));
        x.peek(0);
        x.poke(0, 1);
        x.lookup(NAME, 0);
        Check.faults(what + ", and then others", x, due);
    }

    private static void otherQuestionsOfFaultAreNone() {
        ModuleLoader x = new ModuleLoader();
        for (int what : new int[] {-1, 5, 6, LOWEST, Integer.MAX_VALUE}) {
            Check.same("fault(" + what + ")", x.fault(what), -1);
        }
        x.symbol(Asm.name("kern"), 0, -4);
        x.call(Asm.name("kern"), 5, 6, 0);
        for (int what : new int[] {-1, 5, 6, LOWEST, Integer.MAX_VALUE}) {
            Check.same("fault(" + what + ") behind a call", x.fault(what), -1);
        }
    }

    private static void unloadIsRefused() {
        ModuleLoader x = new ModuleLoader();
        Check.refusesArguments("none is there", () -> x.unload(NAME, 0));
        FileWords.of(1).exports("expo", 0, 0).load(x, "modu");
        for (int name : new int[] {0, -1, NEXT, Asm.name("expo"), NAME ^ 1, NAME ^ 1 << 31}) {
            Check.refusesArguments("unload " + name, () -> x.unload(name, 0));
        }
        Check.same("modules", x.count(0), 1);
        x.unload(NAME, 0);
        Check.refusesArguments("it has gone", () -> x.unload(NAME, 0));
    }

    private static void exitHasFuel() {
        FileWords file = FileWords.of(Asm.addi(5, 0, 1), Asm.RET).exports("expo", 0, 0).guard(4).exit(0);
        ModuleLoader x = new ModuleLoader();
        file.load(x, "modu");
        for (int fuel = 0; fuel < 2; fuel++) {
            int given = fuel;
            Check.refusesState("EXIT with fuel " + fuel, () -> x.unload(NAME, given));
            Check.faults("EXIT with fuel " + fuel, x, 9, -1, 0, fuel, 0);
            Check.same("it stays", x.module(NAME, 0), 512);
            Check.same("its symbols stay", x.lookup(Asm.name("expo"), 2), NAME);
            Check.same("its room stays", x.count(2), 207);
            Check.yes("PROTECTED stays", x.isProtected(515));
        }
        x.unload(NAME, 2);
        Check.faults("EXIT with just enough", x, 0, -1, 0, 2, 0);
        Check.same("it goes", x.module(NAME, 0), -1);
        Check.same("its symbols go", x.lookup(Asm.name("expo"), 2), -1);
        Check.same("its room is free", x.count(2), 208);
        Check.no("PROTECTED no more", x.isProtected(515));
    }

    private static void exitReturnsAnything() {
        for (int value : new int[] {0, 1, -1, LOWEST, Integer.MAX_VALUE}) {
            int[] li = Asm.li(10, value);
            ModuleLoader x = new ModuleLoader();
            FileWords.of(li[0], li[1], Asm.RET).exit(0).load(x, "modu");
            x.unload(NAME, 3);
            Check.faults("EXIT returns " + value, x, 0, -1, 0, 3, value);
            Check.same("it goes", x.count(0), 0);
        }
    }

    private static void exitHasItsGuard() {
        ModuleLoader x = new ModuleLoader();
        FileWords.of(Asm.auipc(5, 0), Asm.store(0, 2, 5, 11), Asm.RET).guard(12).exit(0).load(x, "modu");
        Check.refusesState("EXIT writes its guard", () -> x.unload(NAME, 9));
        Check.faults("EXIT writes its guard", x, 8, -1, 6, 2, 0);
        Check.same("it stays", x.count(0), 1);
        FileWords.of(Asm.auipc(5, 0), Asm.sw(2, 5, 12), Asm.RET, 0).guard(12).exit(0).load(x, "next");
        x.unload(NEXT, 3);
        Check.same("EXIT writes behind its guard", x.peek(540), 4096);
    }

    private static void neededOnesStay() {
        ModuleLoader x = new ModuleLoader();
        FileWords.of(0).exports("expo", 0, 0).exit(0).load(x, "modu");
        FileWords.of(1).imports("expo", 0).load(x, "usea");
        FileWords.of(1).imports("expo", 0).load(x, "useb");
        for (String user : new String[] {"usea", "useb"}) {
            Check.refusesState("needed", () -> x.unload(NAME, 0));
            Check.faults("11 before 8 and 9", x, 11, -1, 0, 0, 0);
            Check.same("register 2", x.register(2), 0);
            x.unload(Asm.name(user), 0);
        }
        Check.refusesState("needed by none", () -> x.unload(NAME, 1));
        Check.faults("needed by none", x, 8, -1, 3, 1, 0);
        FileWords.of(1).imports("expo", 0).exit(0).load(x, "usea");
        Check.refusesState("a user whose EXIT fails", () -> x.unload(Asm.name("usea"), 1));
        Check.refusesState("needs it still", () -> x.unload(NAME, 1));
        Check.same("needs it still", x.fault(0), 11);
    }
}
