import java.util.ArrayList;
import java.util.List;

/** Promises 5 and 6: feed and feedByte; and what makes a tape a FILE (FAULT 1 of promise 7). */
public final class TapeTest {
    private static final int NAME = Asm.name("modu");

    public static void main(String[] args) {
        holdsTwelveHundredBytes();
        mixesWordsAndBytes();
        staysWhenArgumentsAreRefused();
        refusesWrongHeaders();
        refusesWrongParts();
        refusesWrongLengths();
        takesTheLargestFile();
        Check.end();
    }

    private static void holdsTwelveHundredBytes() {
        ModuleLoader x = new ModuleLoader();
        for (int k = 1; k <= 300; k++) {
            Check.same("feed " + k, x.feed(k), 4 * k);
        }
        Check.same("feed at 1200", x.feed(1), -1);
        Check.same("feedByte at 1200", x.feedByte(1), -1);
        Check.same("tape", x.count(4), 1200);
        Check.loadFault("1200 bytes", x, NAME, 0, 1, -1);
        endsInsideAWord();
    }

    private static void endsInsideAWord() {
        ModuleLoader x = new ModuleLoader();
        for (int k = 1; k <= 299; k++) {
            x.feed(k);
        }
        Check.same("feedByte at 1196", x.feedByte(1), 1197);
        Check.same("feed at 1197", x.feed(1), -1);
        Check.same("tape", x.count(4), 1197);
        Check.same("feedByte at 1197", x.feedByte(-1), 1198);
        Check.same("feed at 1198", x.feed(1), -1);
        Check.same("feedByte at 1198", x.feedByte(256), 1199);
        Check.same("feedByte at 1199", x.feedByte(1), 1200);
        Check.same("feedByte at 1200", x.feedByte(1), -1);
    }

    private static void mixesWordsAndBytes() {
        ModuleLoader x = new ModuleLoader();
        List<Integer> words = FileWords.of(0x89ABCDEF, -2, 0x01020304).words();
        for (int word : words) {
            for (int shift = 0; shift < 32; shift += 8) {
                x.feedByte((word >>> shift) | 0xABCDEF00);
            }
        }
        x.load(NAME, 0);
        checkImage("by bytes, the lowest one of each", x, 512);
        x.feedByte(words.get(0));
        for (int k = 0; k + 1 < words.size(); k++) {
            x.feed(words.get(k) >>> 8 | words.get(k + 1) << 24);
        }
        int last = words.get(words.size() - 1);
        x.feedByte(last >> 8);
        x.feedByte(last >> 16);
        Check.same("across words", x.feedByte(last >> 24), 44);
        x.load(Asm.name("next"), 0);
        checkImage("across words", x, 528);
    }

    private static void checkImage(String what, ModuleLoader x, int address) {
        Check.same(what, x.peek(address), 0x89ABCDEF);
        Check.same(what, x.peek(address + 4), -2);
        Check.same(what, x.peek(address + 8), 0x01020304);
        Check.same(what, x.peek(address + 12), 0);
    }

    private static void staysWhenArgumentsAreRefused() {
        ModuleLoader x = new ModuleLoader();
        FileWords.of(1).feed(x);
        Check.refusesArguments("no name", () -> x.load(0, 0));
        Check.refusesArguments("fuel -1", () -> x.load(NAME, -1));
        Check.refusesArguments("fuel 2001", () -> x.load(NAME, 2001));
        Check.same("tape", x.count(4), 36);
        Check.same("load with fuel 2000", x.load(NAME, 2000), 512);
        Check.same("tape", x.count(4), 0);
        Check.loadFault("an empty tape", x, Asm.name("next"), 0, 1, -1);
    }

    /** Words 0 to 14 of this file: the header, two words of image, an import, an export (11, 12, 13), a place. */
    private static List<Integer> plainFile() {
        return FileWords.of(1, 2).imports("kern", 7).exports("expo", 8, 4).place(0, 4, 0, 12).words();
    }

    private static void tryWord(int index, int value, boolean isFile) {
        ModuleLoader x = new ModuleLoader();
        x.symbol(Asm.name("kern"), 7, 40);
        List<Integer> words = plainFile();
        words.set(index, value);
        FileWords.feed(x, words);
        String what = "word " + index + " as " + value;
        if (isFile) {
            Check.same(what, x.load(NAME, 9), 512);
        } else {
            Check.loadFault(what, x, NAME, 9, 1, -1);
            Check.same(what + ": peek(512)", x.peek(512), 0);
            Check.same(what + ": symbols", x.count(1), 1);
        }
    }

    private static void refusesWrongHeaders() {
        tryWord(0, FileWords.MAGIC, true);
        tryWord(0, FileWords.MAGIC + 1, false);
        tryWord(0, 0x0FFFFFF & FileWords.MAGIC, false);
        for (int size : new int[] {0, -8, 4, 6, 7, 9, 12, 516, 1 << 31}) {
            tryWord(1, size, false);
        }
        for (int index = 2; index <= 4; index++) {
            for (int number : new int[] {-1, 0, 2, 9, 25, 1 << 30, 1 << 31}) {
                tryWord(index, number, false);
            }
        }
        for (int index = 5; index <= 6; index++) {
            for (int offset : new int[] {1, 2, 3, 8, 12, -2, -4, 1 << 31}) {
                tryWord(index, offset, false);
            }
        }
        tryWord(6, 4, true);
        tryWord(6, -1, true);
        for (int guard : new int[] {-1, -4, 1, 2, 6, 7, 12, 1 << 31}) {
            tryWord(7, guard, false);
        }
        tryWord(7, 0, true);
        tryWord(7, 4, true);
        tryWord(7, 8, true);
    }

    private static void refusesWrongParts() {
        tryWord(10, 0, false);
        tryWord(10, Asm.name("kerN"), false);
        tryWord(12, 0, false);
        tryWord(12, Asm.name("{xpo"), false);
        tryWord(13, -1, true);
        for (int offset : new int[] {-1, -4, 1, 2, 8, 1 << 31}) {
            tryWord(14, offset, false);
            tryWord(16, offset, false);
        }
        tryWord(14, 0, true);
        tryWord(16, 0, true);
        for (int kind = 0; kind <= 5; kind++) {
            tryWord(15, kind, true);
        }
        tryWord(15, -1, false);
        tryWord(15, 6, false);
        tryWord(15, 256, false);
        tryWord(17, -1, true);
        tryWord(17, 1, false);
        tryWord(17, -2, false);
        tryWord(17, 1 << 31, false);
        tryWord(18, 1 << 31, true);
        noNameIsExportedTwice();
        aNameMayBeImportedTwice();
    }

    private static void noNameIsExportedTwice() {
        ModuleLoader x = new ModuleLoader();
        FileWords.of(1, 2).exports("aaaa", 1, 0).exports("bbbb", 1, 0).exports("aaaa", 2, 4).feed(x);
        Check.loadFault("a name exported twice", x, NAME, 0, 1, -1);
        FileWords.of(1).place(0, 0, 0, 0).feed(x);
        Check.loadFault("a source without any imports", x, NAME, 0, 1, -1);
    }

    private static void aNameMayBeImportedTwice() {
        ModuleLoader x = new ModuleLoader();
        x.symbol(Asm.name("kern"), 7, 40);
        FileWords.of(1, 2).imports("kern", 7).imports("kern", 7).place(0, 4, 1, 1).feed(x);
        Check.same("a name imported twice", x.load(NAME, 0), 512);
        Check.same("its place", x.peek(516), 41);
    }

    private static void refusesWrongLengths() {
        List<Integer> words = plainFile();
        for (int length = 0; length <= words.size() + 1; length++) {
            ModuleLoader x = new ModuleLoader();
            x.symbol(Asm.name("kern"), 7, 40);
            List<Integer> some = new ArrayList<>(words);
            some.add(0);
            FileWords.feed(x, some.subList(0, length));
            if (length == words.size()) {
                Check.same("the whole file", x.load(NAME, 0), 512);
            } else {
                Check.loadFault(length + " words", x, NAME, 0, 1, -1);
            }
        }
        for (int more = 1; more <= 3; more++) {
            ModuleLoader x = new ModuleLoader();
            FileWords.of(1).feed(x);
            for (int k = 0; k < more; k++) {
                x.feedByte(0);
            }
            Check.loadFault(more + " bytes more", x, NAME, 0, 1, -1);
        }
        shorterTapesForgetLongerOnes();
    }

    /** What an earlier tape held must not stand in for the bytes that are missing. */
    private static void shorterTapesForgetLongerOnes() {
        ModuleLoader x = new ModuleLoader();
        FileWords.of(1, 2, 3).load(x, "modu");
        List<Integer> words = FileWords.of(1, 2, 3).words();
        FileWords.feed(x, words.subList(0, words.size() - 1));
        Check.loadFault("a word is missing", x, Asm.name("next"), 0, 1, -1);
        FileWords.of(0, 0, 0).load(x, "zero");
        Check.same("a word that is 0 now", x.peek(528), 0);
        FileWords.of(0).place(0, 0, -1, 0).place(4, 0, -1, 1).feed(x);
        Check.loadFault("a second place that is too odd", x, Asm.name("next"), 0, 7, 1);
        FileWords.of(0).place(0, 0, -1, 0).feed(x);
        Check.same("without that place", x.load(Asm.name("next"), 0), 544);
    }

    private static void takesTheLargestFile() {
        ModuleLoader x = new ModuleLoader();
        x.symbol(Asm.name("kern"), 7, 40);
        FileWords file = FileWords.zeros(512).guard(512).exit(508);
        for (int k = 0; k < 8; k++) {
            file.imports("kern", 7).exports("exp" + (char) ('a' + k), k, 4 * k);
        }
        for (int k = 0; k < 24; k++) {
            file.place(0, 508 - 4 * k, k % 8, k);
        }
        file.feed(x);
        Check.same("its bytes", x.count(4), 1088);
        Check.same("the largest file", x.load(NAME, 0), 512);
        Check.same("its SIZE", x.module(NAME, 1), 512);
        Check.same("its last place", x.peek(512 + 508 - 92), 63);
        Check.same("its last export", x.lookup(Asm.name("exph"), 0), 540);
        Check.same("rows", x.count(2), 176);
        tooMany("imports", 9, 0, 0);
        tooMany("exports", 0, 9, 0);
        tooMany("places", 0, 0, 25);
        FileWords.zeros(516).feed(x);
        Check.loadFault("SIZE 516", x, Asm.name("next"), 0, 1, -1);
        Check.same("the smallest image", FileWords.of(5).load(x, "smal"), 1024);
    }

    private static void tooMany(String what, int imports, int exports, int places) {
        ModuleLoader x = new ModuleLoader();
        x.symbol(Asm.name("kern"), 7, 40);
        FileWords file = FileWords.of(1, 2);
        for (int k = 0; k < imports; k++) {
            file.imports("kern", 7);
        }
        for (int k = 0; k < exports; k++) {
            file.exports("exp" + (char) ('a' + k), k, 0);
        }
        for (int k = 0; k < places; k++) {
            file.place(0, 0, -1, 0);
        }
        file.feed(x);
        Check.loadFault("too many " + what, x, NAME, 0, 1, -1);
    }
}
