/** Promises 15, 16 and 17: module, count and at; room by first fit, and who needs whom. */
public final class RoomTest {
    public static void main(String[] args) {
        takesTheFirstFit();
        goesPastSmallGaps();
        roundsUpToRows();
        countsOthersAsNone();
        knowsWhoNeedsWhom();
        Check.end();
    }

    private static int name(String text) {
        return Asm.name(text);
    }

    private static void unload(ModuleLoader x, String name) {
        x.unload(name(name), 0);
    }

    private static void checkOrder(String what, ModuleLoader x, String... names) {
        for (int k = 0; k < names.length; k++) {
            Check.same(what + ": at(" + k + ")", x.at(k), name(names[k]));
        }
        Check.same(what + ": at behind the last", x.at(names.length), -1);
        Check.same(what + ": at(-1)", x.at(-1), -1);
        Check.same(what + ": at(12)", x.at(12), -1);
        Check.same(what + ": modules", x.count(0), names.length);
    }

    private static void checkRows(String what, ModuleLoader x, int free, int together) {
        Check.same(what + ": free rows", x.count(2), free);
        Check.same(what + ": free rows together", x.count(3), together);
    }

    private static void takesTheFirstFit() {
        ModuleLoader x = new ModuleLoader();
        Check.same("aaaa", FileWords.zeros(32).load(x, "aaaa"), 512);
        Check.same("bbbb", FileWords.zeros(64).load(x, "bbbb"), 544);
        Check.same("cccc", FileWords.zeros(16).load(x, "cccc"), 608);
        Check.same("dddd", FileWords.zeros(48).load(x, "dddd"), 624);
        Check.same("eeee", FileWords.zeros(16).load(x, "eeee"), 672);
        checkOrder("five", x, "aaaa", "bbbb", "cccc", "dddd", "eeee");
        checkRows("five", x, 197, 197);
        unload(x, "bbbb");
        unload(x, "dddd");
        checkOrder("three", x, "aaaa", "cccc", "eeee");
        checkRows("three", x, 204, 197);
        Check.same("the first gap", FileWords.zeros(48).load(x, "ffff"), 544);
        Check.same("the second gap", FileWords.zeros(32).load(x, "gggg"), 624);
        Check.same("the rest of the first gap", FileWords.zeros(16).load(x, "hhhh"), 592);
        checkOrder("six", x, "aaaa", "ffff", "hhhh", "cccc", "gggg", "eeee");
        checkRows("six", x, 198, 197);
        unload(x, "aaaa");
        Check.same("not at the beginning", FileWords.zeros(36).load(x, "iiii"), 688);
        Check.same("at the beginning", FileWords.zeros(20).load(x, "jjjj"), 512);
        checkOrder("seven", x, "jjjj", "ffff", "hhhh", "cccc", "gggg", "eeee", "iiii");
    }

    private static void goesPastSmallGaps() {
        ModuleLoader x = new ModuleLoader();
        for (int k = 0; k < 6; k++) {
            FileWords.zeros(512).load(x, "big" + (char) ('a' + k));
        }
        FileWords.zeros(256).load(x, "last");
        checkRows("full", x, 0, 0);
        unload(x, "last");
        checkRows("without the last", x, 16, 16);
        unload(x, "biga");
        checkRows("without the first", x, 48, 32);
        unload(x, "bigc");
        checkRows("without the third", x, 80, 32);
        unload(x, "bigb");
        checkRows("without the second", x, 112, 96);
        Check.same("a row", FileWords.zeros(16).load(x, "litt"), 512);
        Check.same("next to it", FileWords.zeros(512).load(x, "next"), 528);
        checkRows("with both", x, 79, 63);
        Check.same("next to that", FileWords.zeros(512).load(x, "more"), 1040);
        FileWords.zeros(512).feed(x);
        Check.loadFault("rows enough, but not together", x, name("toob"), 0, 6, -1);
        checkRows("none so large", x, 47, 31);
        Check.same("the whole gap", FileWords.zeros(496).load(x, "fits"), 1552);
        checkRows("only the end", x, 16, 16);
    }

    private static void roundsUpToRows() {
        ModuleLoader x = new ModuleLoader();
        int[][] rows = {{4, 512}, {16, 528}, {20, 544}, {32, 576}, {36, 608}, {12, 656}};
        for (int k = 0; k < rows.length; k++) {
            String name = "mod" + (char) ('a' + k);
            Check.same(rows[k][0] + " bytes", FileWords.zeros(rows[k][0]).load(x, name), rows[k][1]);
            Check.same("its address", x.module(name(name), 0), rows[k][1]);
            Check.same("its SIZE", x.module(name(name), 1), rows[k][0]);
            Check.same("its exports", x.module(name(name), 2), 0);
        }
        checkRows("six", x, 198, 198);
    }

    private static void countsOthersAsNone() {
        ModuleLoader x = new ModuleLoader();
        FileWords.zeros(16).load(x, "aaaa");
        for (int what : new int[] {-1, 5, 6, 1 << 31, Integer.MAX_VALUE}) {
            Check.same("count(" + what + ")", x.count(what), -1);
            Check.same("module(" + what + ")", x.module(name("aaaa"), what), -1);
        }
        for (int what = -1; what <= 5; what++) {
            Check.same("none such", x.module(name("bbbb"), what), -1);
            Check.same("no name", x.module(0, what), -1);
        }
        Check.same("at a large k", x.at(Integer.MAX_VALUE), -1);
        Check.same("at a small k", x.at(1 << 31), -1);
        x.feedByte(1);
        x.feed(2);
        Check.same("tape", x.count(4), 5);
    }

    private static void checkNeeds(String what, ModuleLoader x, String name, int needing, int needed) {
        Check.same(what + ": how many need " + name, x.module(name(name), 3), needing);
        Check.same(what + ": how many " + name + " needs", x.module(name(name), 4), needed);
    }

    private static void knowsWhoNeedsWhom() {
        ModuleLoader x = new ModuleLoader();
        x.symbol(name("kern"), 0, 0);
        FileWords.zeros(16).exports("aone", 0, 0).exports("atwo", 0, 4).imports("kern", 0).load(x, "aaaa");
        FileWords.zeros(16).exports("bone", 0, 0).imports("aone", 0).imports("atwo", 0).imports("aone", 0)
            .load(x, "bbbb");
        FileWords.zeros(16).imports("kern", 0).imports("bone", 0).imports("atwo", 0).load(x, "cccc");
        checkNeeds("three", x, "aaaa", 2, 0);
        checkNeeds("three", x, "bbbb", 1, 1);
        checkNeeds("three", x, "cccc", 0, 2);
        Check.same("exports", x.module(name("aaaa"), 2), 2);
        Check.same("exports", x.module(name("bbbb"), 2), 1);
        unload(x, "cccc");
        checkNeeds("two", x, "aaaa", 1, 0);
        checkNeeds("two", x, "bbbb", 0, 1);
        FileWords.zeros(16).imports("bone", 0).load(x, "dddd");
        checkNeeds("only what it imports itself", x, "dddd", 0, 1);
        checkNeeds("only what it imports itself", x, "aaaa", 1, 0);
        needsEightModules();
        needsWhatLiesBehind();
    }

    private static void needsWhatLiesBehind() {
        ModuleLoader x = new ModuleLoader();
        FileWords.zeros(16).load(x, "gone");
        FileWords.zeros(16).exports("bone", 0, 0).load(x, "bbbb");
        FileWords.zeros(16).exports("cone", 0, 0).load(x, "cccc");
        unload(x, "gone");
        Check.same("before those it needs", FileWords.zeros(16).imports("bone", 0).imports("cone", 0).load(x, "user"), 512);
        checkNeeds("behind it", x, "bbbb", 1, 0);
        checkNeeds("behind it", x, "cccc", 1, 0);
        Check.refusesState("unload", () -> x.unload(name("bbbb"), 0));
        unload(x, "user");
        FileWords.zeros(16).imports("bone", 0).load(x, "user");
        checkNeeds("only one now", x, "user", 0, 1);
        unload(x, "cccc");
    }

    private static void needsEightModules() {
        ModuleLoader x = new ModuleLoader();
        FileWords file = FileWords.zeros(16);
        for (int k = 0; k < 8; k++) {
            String export = "exp" + (char) ('a' + k);
            FileWords.zeros(16).exports(export, k, 0).load(x, "mod" + (char) ('a' + k));
            file.imports(export, k);
        }
        file.load(x, "many");
        checkNeeds("eight", x, "many", 0, 8);
        for (int k = 0; k < 8; k++) {
            int needed = name("mod" + (char) ('a' + k));
            Check.refusesState("unload " + k, () -> x.unload(needed, 0));
        }
        unload(x, "many");
        unload(x, "modh");
        Check.same("modules", x.count(0), 7);
    }
}
