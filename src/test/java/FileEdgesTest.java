import java.util.ArrayList;
import java.util.Arrays;
import java.util.List;

/** The edges that the terms NAME and A FILE name: only one thing is wrong with each tape, its length never. */
public final class FileEdgesTest {
    private static final int NAME = Asm.name("modu");
    private static final int LOWEST = Integer.MIN_VALUE;
    private static final int SIZE = 1;
    private static final int IMPORTS = 2;
    private static final int EXPORTS = 3;
    private static final int PLACES = 4;
    private static final int INIT = 5;
    private static final int EXIT = 6;
    private static final int GUARD = 7;

    public static void main(String[] args) {
        aFileBeginsWithItsNumber();
        sizeIsFourToFiveHundredTwelve();
        sizeIsAMultipleOfFour();
        importsAreAtMostEight();
        exportsAreAtMostEight();
        placesAreAtMostTwentyFour();
        countsBelowZeroAreLarge();
        countsDoNotGoRound();
        initAndExitAreOffsets();
        guardIsAtMostSize();
        namesAreLetters();
        exportsHaveOffsets();
        kindsAreZeroToFive();
        placesHaveOffsets();
        sourcesAreImports();
        checksAndAddendsAreAnyWords();
        noNameIsExportedTwice();
        noByteMoreAndNoneLess();
        aFullTapeIsNoFile();
        Check.end();
    }

    private static ModuleLoader loader() {
        ModuleLoader x = new ModuleLoader();
        x.symbol(Asm.name("kern"), 7, 40);
        return x;
    }

    private static void isFile(String what, List<Integer> words) {
        ModuleLoader x = loader();
        FileWords.feed(x, words);
        Check.same(what, x.load(NAME, 9), 512);
        Check.same(what + ": fault(0)", x.fault(0), 0);
        Check.same(what + ": SIZE", x.module(NAME, 1), words.get(SIZE));
    }

    private static void isNone(String what, List<Integer> words) {
        ModuleLoader x = loader();
        FileWords.feed(x, words);
        refused(what, x);
    }

    private static void refused(String what, ModuleLoader x) {
        Check.loadFault(what, x, NAME, 9, 1, -1);
        Check.same(what + ": modules", x.count(0), 0);
        Check.same(what + ": symbols", x.count(1), 1);
        Check.same(what + ": peek(512)", x.peek(512), 0);
    }

    private static List<Integer> with(FileWords file, int index, int value) {
        List<Integer> words = file.words();
        words.set(index, value);
        return words;
    }

    /** Just so many words of a file whose header has one word changed. */
    private static List<Integer> cut(FileWords file, int index, int value, int length) {
        List<Integer> words = with(file, index, value);
        while (words.size() < length) {
            words.add(0);
        }
        return new ArrayList<>(words.subList(0, length));
    }

    private static FileWords imageOf(int words) {
        int[] image = new int[words];
        Arrays.fill(image, Asm.RET);
        return FileWords.of(image);
    }

    private static void aFileBeginsWithItsNumber() {
        isFile("1297040469", imageOf(2).words());
        for (int bit = 0; bit < 32; bit++) {
            isNone("the number with bit " + bit + " changed", with(imageOf(2), 0, FileWords.MAGIC ^ 1 << bit));
        }
        isNone("its bytes the other way", with(imageOf(2), 0, Integer.reverseBytes(FileWords.MAGIC)));
    }

    private static void sizeIsFourToFiveHundredTwelve() {
        isNone("SIZE 0", imageOf(0).words());
        isFile("SIZE 4", imageOf(1).words());
        isFile("SIZE 8", imageOf(2).words());
        isFile("SIZE 508", imageOf(127).words());
        isFile("SIZE 512", imageOf(128).words());
        isNone("SIZE 516", imageOf(129).words());
        isNone("SIZE 1024", imageOf(256).words());
        isNone("SIZE -4", cut(imageOf(1), SIZE, -4, 8));
        isNone("SIZE -4 in 7 words", cut(imageOf(1), SIZE, -4, 7));
        for (int high : new int[] {1 << 31, 1 << 30, 1 << 16, 1 << 10}) {
            isNone("SIZE 4 and " + high, with(imageOf(1), SIZE, 4 | high));
        }
    }

    private static void sizeIsAMultipleOfFour() {
        for (int size : new int[] {1, 2, 3, 5, 6, 7, 510, 511}) {
            for (int length = 8 + size / 4; length <= 9 + size / 4; length++) {
                isNone("SIZE " + size + " in " + length + " words", cut(imageOf(1), SIZE, size, length));
            }
            ModuleLoader x = loader();
            FileWords.feed(x, cut(imageOf(1), SIZE, size, 8 + size / 4));
            for (int k = 0; k < size % 4; k++) {
                x.feedByte(0);
            }
            refused("SIZE " + size + " in just so many bytes", x);
        }
    }

    private static FileWords withImports(int number) {
        FileWords file = imageOf(2);
        for (int k = 0; k < number; k++) {
            file.imports("kern", 7);
        }
        return file;
    }

    private static void importsAreAtMostEight() {
        for (int number : new int[] {0, 1, 7, 8}) {
            isFile(number + " imports", withImports(number).words());
        }
        isNone("9 imports", withImports(9).words());
        isNone("10 imports", withImports(10).words());
    }

    private static FileWords withExports(int number) {
        FileWords file = imageOf(2);
        for (int k = 0; k < number; k++) {
            file.exports("exp" + (char) ('a' + k), k, 4);
        }
        return file;
    }

    private static void exportsAreAtMostEight() {
        for (int number : new int[] {0, 1, 7, 8}) {
            isFile(number + " exports", withExports(number).words());
        }
        isNone("9 exports", withExports(9).words());
        isNone("10 exports", withExports(10).words());
    }

    private static FileWords withPlaces(int number) {
        FileWords file = imageOf(2);
        for (int k = 0; k < number; k++) {
            file.place(0, 4, -1, k);
        }
        return file;
    }

    private static void placesAreAtMostTwentyFour() {
        for (int number : new int[] {0, 1, 23, 24}) {
            isFile(number + " places", withPlaces(number).words());
        }
        isNone("25 places", withPlaces(25).words());
        isNone("26 places", withPlaces(26).words());
    }

    private static void countsBelowZeroAreLarge() {
        int[] wordsOf = {2, 3, 4};
        for (int index = IMPORTS; index <= PLACES; index++) {
            int fewer = wordsOf[index - IMPORTS];
            isNone("word " + index + " as -1", with(imageOf(4), index, -1));
            isNone("word " + index + " as -1, in fewer words", cut(imageOf(4), index, -1, 12 - fewer));
        }
        FileWords both = imageOf(4).exports("expo", 1, 4).exports("more", 1, 4);
        isNone("-3 imports and 2 exports", with(both, IMPORTS, -3).subList(0, 12));
    }

    /** So many that the words they take come to a number with 32 bits again. */
    private static void countsDoNotGoRound() {
        for (int index = IMPORTS; index <= PLACES; index++) {
            for (int round : new int[] {1 << 28, 1 << 29, 1 << 30, 1 << 31, 3 << 30}) {
                isNone("word " + index + " as " + round, with(imageOf(4), index, round));
            }
        }
        isNone("an import and 2^31", with(withImports(1), IMPORTS, 1 | 1 << 31));
        isNone("an export and 2^30", with(withExports(1), EXPORTS, 1 | 1 << 30));
        isNone("a place and 2^30", with(withPlaces(1), PLACES, 1 | 1 << 30));
    }

    private static void initAndExitAreOffsets() {
        for (int index : new int[] {INIT, EXIT}) {
            for (int offset : new int[] {-1, 0, 4, 8}) {
                isFile("word " + index + " as " + offset, with(imageOf(3), index, offset));
            }
            for (int offset : new int[] {12, 16, 1, 2, 3, 5, 6, 7, 11, -2, -3, -4, -12, LOWEST, LOWEST | 4, 1 << 16}) {
                isNone("word " + index + " as " + offset, with(imageOf(3), index, offset));
            }
            isFile("word " + index + " in the smallest image", with(imageOf(1), index, 0));
            isNone("word " + index + " behind the smallest image", with(imageOf(1), index, 4));
            isFile("word " + index + " in the largest image", with(imageOf(128), index, 508));
            isNone("word " + index + " behind the largest image", with(imageOf(128), index, 512));
        }
    }

    private static void guardIsAtMostSize() {
        for (int guard : new int[] {0, 4, 8, 12}) {
            isFile("GUARD " + guard, with(imageOf(3), GUARD, guard));
        }
        for (int guard : new int[] {1, 2, 3, 5, 6, 7, 10, 11, 13, 14, 16, -1, -4, LOWEST, LOWEST | 4}) {
            isNone("GUARD " + guard, with(imageOf(3), GUARD, guard));
        }
        isFile("GUARD 512", with(imageOf(128), GUARD, 512));
        isNone("GUARD 516", with(imageOf(128), GUARD, 516));
    }

    private static void namesAreLetters() {
        for (int shift = 0; shift < 32; shift += 8) {
            for (int letter : new int[] {0, 'A', 'Z', 'a' - 1, 'z' + 1, 'a' | 128, 255}) {
                int name = NAME & ~(255 << shift) | letter << shift;
                isNone("an import " + name, with(withImports(1), 10, name));
                isNone("an export " + name, with(withExports(1), 10, name));
                isNone("the last import " + name, with(withImports(8), 24, name));
                isNone("the last export " + name, with(withExports(8), 31, name));
            }
            for (int letter : new int[] {'a', 'z'}) {
                isFile("an export", with(withExports(1), 10, NAME & ~(255 << shift) | letter << shift));
            }
        }
        isFile("aaaa", with(withExports(1), 10, Asm.name("aaaa")));
        isFile("zzzz", with(withExports(1), 10, Asm.name("zzzz")));
    }

    private static void exportsHaveOffsets() {
        for (int offset : new int[] {0, 4}) {
            isFile("an export at " + offset, with(withExports(1), 12, offset));
        }
        for (int offset : new int[] {1, 2, 3, 5, 6, 7, 8, 12, -1, -4, LOWEST}) {
            isNone("an export at " + offset, with(withExports(1), 12, offset));
            isNone("the last export at " + offset, with(withExports(8), 33, offset));
        }
    }

    private static void kindsAreZeroToFive() {
        for (int kind = 0; kind <= 5; kind++) {
            isFile("KIND " + kind, with(withPlaces(1), 10, kind));
        }
        for (int kind : new int[] {6, 7, 8, 256, -1, LOWEST}) {
            isNone("KIND " + kind, with(withPlaces(1), 10, kind));
            isNone("the last KIND " + kind, with(withPlaces(24), 102, kind));
        }
    }

    private static void placesHaveOffsets() {
        for (int offset : new int[] {0, 4}) {
            isFile("a place at " + offset, with(withPlaces(1), 11, offset));
        }
        for (int offset : new int[] {1, 2, 3, 5, 6, 7, 8, 12, -1, -4, LOWEST}) {
            isNone("a place at " + offset, with(withPlaces(1), 11, offset));
            isNone("the last place at " + offset, with(withPlaces(24), 103, offset));
        }
    }

    private static void sourcesAreImports() {
        isFile("the image itself", with(withPlaces(1), 12, -1));
        isNone("import 0 of none", with(withPlaces(1), 12, 0));
        isNone("the last place has import 0 of none", with(withPlaces(24), 104, 0));
        for (int imports : new int[] {1, 2, 8}) {
            FileWords file = withImports(imports).place(0, 4, 0, 0);
            int source = 10 + 2 * imports + 2;
            isFile("the first import of " + imports, with(file, source, 0));
            isFile("the last import of " + imports, with(file, source, imports - 1));
            for (int none : new int[] {imports, imports + 1, -2, LOWEST, 1 << 16}) {
                isNone("import " + none + " of " + imports, with(file, source, none));
            }
        }
    }

    private static void checksAndAddendsAreAnyWords() {
        for (int word : new int[] {0, 1, -1, LOWEST, Integer.MAX_VALUE}) {
            isFile("an export's check " + word, with(withExports(1), 11, word));
            isFile("an addend " + word, with(withPlaces(1), 13, word));
            ModuleLoader x = new ModuleLoader();
            x.symbol(Asm.name("kern"), word, word);
            imageOf(1).imports("kern", word).place(0, 0, 0, 0).load(x, "modu");
            Check.same("an import's check " + word, x.peek(512), word);
        }
    }

    private static void noNameIsExportedTwice() {
        for (int first = 0; first < 8; first++) {
            for (int second = first + 1; second < 8; second++) {
                isNone("exports " + first + " and " + second,
                    with(withExports(8), 10 + 3 * second, Asm.name("exp" + (char) ('a' + first))));
            }
        }
        isNone("all the same", imageOf(1).exports("expo", 1, 0).exports("expo", 1, 0).words());
        isFile("names that differ in one letter", imageOf(1).exports("expo", 1, 0).exports("expp", 1, 0)
            .exports("fxpo", 1, 0).words());
    }

    private static FileWords whole() {
        return imageOf(2).imports("kern", 7).exports("expo", 1, 4).place(0, 4, 0, 3);
    }

    private static void noByteMoreAndNoneLess() {
        int words = whole().words().size();
        isFile("just its words", whole().words());
        for (int bytes = 0; bytes <= 4 * words + 5; bytes++) {
            ModuleLoader x = loader();
            feedBytes(x, whole().words(), bytes);
            if (bytes == 4 * words) {
                Check.same("just its bytes", x.load(NAME, 9), 512);
            } else {
                refused(bytes + " bytes", x);
            }
        }
    }

    private static void feedBytes(ModuleLoader x, List<Integer> words, int bytes) {
        for (int k = 0; k < bytes; k++) {
            x.feedByte(k / 4 < words.size() ? words.get(k / 4) >>> 8 * (k % 4) : 0);
        }
    }

    private static void aFullTapeIsNoFile() {
        ModuleLoader x = loader();
        FileWords.feed(x, cut(imageOf(128), SIZE, 512, 300));
        Check.same("the tape is full", x.count(4), 1200);
        refused("the tape is full", x);
        imageOf(1).feed(x);
        Check.same("it is empty behind that", x.load(NAME, 9), 512);
        ModuleLoader y = loader();
        refused("an empty tape", y);
        refused("an empty tape again", y);
    }
}
