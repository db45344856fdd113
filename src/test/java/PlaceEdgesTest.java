/** The edges that the term VALUE and the KINDS name: sums that go round, and distances that are just near enough. */
public final class PlaceEdgesTest {
    private static final int NAME = Asm.name("modu");
    private static final int LOWEST = Integer.MIN_VALUE;

    public static void main(String[] args) {
        valuesGoRound();
        highTwentyBitsRoundUp();
        lowTwelveBitsStay();
        storesSplitTwelveBits();
        jumpsReachJustSoFar();
        branchesReachJustSoFar();
        distancesAreEven();
        distancesGoRound();
        otherKindsReachEverywhere();
        distancesBeginAtThePlace();
        placesComeInOrder();
        allPlacesAreMended();
        Check.end();
    }

    /** The word at the end of an image, mended by the one place there. */
    private static int mended(int kind, int word, int address, int addend) {
        ModuleLoader x = new ModuleLoader();
        x.symbol(Asm.name("kern"), 3, address);
        FileWords.of(1, 2, word).imports("kern", 3).place(kind, 8, 0, addend).load(x, "modu");
        return x.peek(520);
    }

    private static void valuesGoRound() {
        Check.same("-1 and 1", mended(0, 9, -1, 1), 0);
        Check.same("the highest and 1", mended(0, 9, Integer.MAX_VALUE, 1), LOWEST);
        Check.same("the lowest twice", mended(0, 9, LOWEST, LOWEST), 0);
        Check.same("4 and -8", mended(0, 9, 4, -8), -4);
        Check.same("-1 and -1", mended(0, 9, -1, -1), -2);
        ModuleLoader x = new ModuleLoader();
        FileWords.of(1, 2, 3).place(0, 0, -1, -512).place(0, 4, -1, -513).place(0, 8, -1, 0).load(x, "modu");
        Check.same("the image's address and -512", x.peek(512), 0);
        Check.same("the image's address and -513", x.peek(516), -1);
        Check.same("where the image begins, not the place", x.peek(520), 512);
    }

    private static void highTwentyBitsRoundUp() {
        int[][] rows = {{0, 0}, {2047, 0}, {2048, 1}, {4095, 1}, {4096, 1}, {6143, 1}, {6144, 2}, {-1, 0}, {-2048, 0},
            {-2049, 0xFFFFF}, {-4096, 0xFFFFF}, {Integer.MAX_VALUE, 0x80000}, {LOWEST, 0x80000}, {LOWEST - 2049, 0x7FFFF}};
        for (int[] row : rows) {
            Check.same("KIND 1 by " + row[0], mended(1, 0, row[0], 0), row[1] << 12);
            Check.same("KIND 1 by " + row[0] + " keeps 12 bits", mended(1, -1, row[0], 0), row[1] << 12 | 0xFFF);
        }
    }

    private static void lowTwelveBitsStay() {
        int[][] rows = {{0, 0}, {1, 1}, {2047, 2047}, {2048, 2048}, {4095, 4095}, {4096, 0}, {4097, 1}, {-1, 4095},
            {-2048, 2048}, {-4096, 0}, {LOWEST, 0}};
        for (int[] row : rows) {
            Check.same("KIND 2 by " + row[0], mended(2, 0, row[0], 0), row[1] << 20);
            Check.same("KIND 2 by " + row[0] + " keeps 20 bits", mended(2, -1, row[0], 0), row[1] << 20 | 0xFFFFF);
        }
    }

    private static void storesSplitTwelveBits() {
        for (int value : new int[] {0, 1, 31, 32, 33, 2047, 2048, 4095, 4096, -1, -32, -2048, LOWEST}) {
            int low = value & 31;
            int high = value >> 5 & 127;
            Check.same("KIND 3 by " + value, mended(3, 0, value, 0), high << 25 | low << 7);
            Check.same("KIND 3 by " + value + " keeps the rest", mended(3, -1, value, 0),
                high << 25 | low << 7 | 0x01FFF07F);
        }
        for (int kind = 0; kind < 3; kind++) {
            Check.same("store " + kind, mended(3, Asm.store(kind, 21, 10, 5), 1234, 0), Asm.store(kind, 21, 10, 1234));
        }
    }

    /** What a load answers (0 for none) when the distance of a place of that KIND is so much. */
    private static int faultOf(int kind, int distance) {
        ModuleLoader x = new ModuleLoader();
        x.symbol(Asm.name("kern"), 3, 520 + distance);
        FileWords.of(1, 2, 3).imports("kern", 3).place(0, 0, 0, 0).place(kind, 8, 0, 0).feed(x);
        try {
            x.load(NAME, 0);
        } catch (IllegalStateException e) {
            Check.same("KIND " + kind + " by " + distance + ": which place", x.fault(1), 1);
            Check.same("KIND " + kind + " by " + distance + ": nothing is written", x.peek(512), 0);
            Check.same("KIND " + kind + " by " + distance + ": nothing is there", x.count(0), 0);
        }
        return x.fault(0);
    }

    private static void jumpsReachJustSoFar() {
        Check.same("-1048576", faultOf(4, -1048576), 0);
        Check.same("-1048578", faultOf(4, -1048578), 7);
        Check.same("1048574", faultOf(4, 1048574), 0);
        Check.same("1048576", faultOf(4, 1048576), 7);
        Check.same("0", faultOf(4, 0), 0);
        for (int distance : new int[] {-1048576, 1048574, 0, -2, 2, 2046, 2048, 4094, 4096, -4096, 524288}) {
            Check.same("jal by " + distance, mended(4, Asm.jal(21, 0), 520, distance), Asm.jal(21, distance));
            Check.same("jal by " + distance + " over all bits", mended(4, -1, 520, distance),
                Asm.jal(31, distance) | 0xFFF);
        }
    }

    private static void branchesReachJustSoFar() {
        Check.same("-4096", faultOf(5, -4096), 0);
        Check.same("-4098", faultOf(5, -4098), 7);
        Check.same("4094", faultOf(5, 4094), 0);
        Check.same("4096", faultOf(5, 4096), 7);
        Check.same("0", faultOf(5, 0), 0);
        for (int distance : new int[] {-4096, 4094, 0, -2, 2, 30, 32, 1022, 1024, 2046, 2048, -2048}) {
            Check.same("beq by " + distance, mended(5, Asm.branch(0, 3, 21, 0), 520, distance),
                Asm.branch(0, 3, 21, distance));
            Check.same("branch by " + distance + " over all bits", mended(5, -1, 520, distance),
                Asm.branch(7, 31, 31, distance) | 0x01FFF07F);
        }
    }

    private static void distancesAreEven() {
        for (int distance : new int[] {-4095, -3, -1, 1, 3, 4093, 4095}) {
            Check.same("KIND 4 by " + distance, faultOf(4, distance), 7);
            Check.same("KIND 5 by " + distance, faultOf(5, distance), 7);
        }
        for (int distance : new int[] {-4094, -2, 2, 4092, 4094}) {
            Check.same("KIND 4 by " + distance, faultOf(4, distance), 0);
            Check.same("KIND 5 by " + distance, faultOf(5, distance), 0);
        }
        for (int distance : new int[] {-1048577, -1048575, 1048573, 1048575}) {
            Check.same("KIND 4 by " + distance, faultOf(4, distance), 7);
        }
    }

    /** JAL and branches add modulo 2^32, so where a run ends is near, and half of all addresses are ahead. */
    private static void distancesGoRound() {
        Check.same("a jump to 4294967292", mended(4, Asm.jal(0, 0), -4, 0), Asm.jal(0, -524));
        Check.same("a branch to 4294967292", mended(5, Asm.branch(0, 0, 0, 0), 0, -4), Asm.branch(0, 0, 0, -524));
        for (int kind = 4; kind <= 5; kind++) {
            Check.same("KIND " + kind + " by the lowest", faultOf(kind, LOWEST), 7);
            Check.same("KIND " + kind + " by the highest", faultOf(kind, Integer.MAX_VALUE - 1), 7);
        }
        ModuleLoader x = new ModuleLoader();
        x.symbol(Asm.name("back"), 3, -4);
        FileWords.of(Asm.jal(0, 0)).imports("back", 3).place(4, 0, 0, 0).exports("runs", 1, 0).load(x, "modu");
        Check.same("such a jump ends a run", x.call(Asm.name("runs"), 6, 0, 1), 6);
    }

    private static void otherKindsReachEverywhere() {
        for (int kind = 0; kind <= 3; kind++) {
            for (int distance : new int[] {1, -1, 1048576, -1048578, LOWEST, Integer.MAX_VALUE}) {
                Check.same("KIND " + kind + " by " + distance, faultOf(kind, distance), 0);
            }
        }
    }

    private static void distancesBeginAtThePlace() {
        ModuleLoader x = new ModuleLoader();
        FileWords.of(1, 2, 3, 4, 5).load(x, "frst");
        FileWords.of(0x6F, 0x6F, 0x63).place(4, 4, -1, 8).place(4, 0, -1, 8).place(5, 8, -1, 0).load(x, "modu");
        Check.same("a jump from the beginning", x.peek(544), Asm.jal(0, 8));
        Check.same("a jump from behind it", x.peek(548), Asm.jal(0, 4));
        Check.same("a branch to the beginning", x.peek(552), Asm.branch(0, 0, 0, -8));
    }

    private static void placesComeInOrder() {
        ModuleLoader x = new ModuleLoader();
        FileWords.of(-1, 0).place(0, 0, -1, 0).place(1, 0, -1, 0x10000).load(x, "modu");
        Check.same("0, then 1", x.peek(512), 0x10200);
        FileWords.of(-1, 0).place(1, 0, -1, 0x10000).place(0, 0, -1, 0).load(x, "next");
        Check.same("1, then 0", x.peek(528), 528);
        FileWords.of(0, 0).place(4, 0, -1, 0).place(5, 4, -1, 1).place(4, 0, -1, 1).feed(x);
        Check.loadFault("the first place that is odd", x, Asm.name("more"), 0, 7, 1);
        FileWords.of(0, 0).place(5, 4, -1, 8192).place(4, 0, -1, 1).feed(x);
        Check.loadFault("the first one is too far", x, Asm.name("more"), 0, 7, 0);
    }

    private static void allPlacesAreMended() {
        ModuleLoader x = new ModuleLoader();
        FileWords file = FileWords.zeros(96).guard(96);
        for (int k = 0; k < 24; k++) {
            file.place(0, 4 * k, -1, k);
        }
        file.load(x, "modu");
        for (int k = 0; k < 24; k++) {
            Check.same("place " + k, x.peek(512 + 4 * k), 512 + k);
        }
        FileWords far = FileWords.zeros(96);
        for (int k = 0; k < 23; k++) {
            far.place(4, 4 * k, -1, 0);
        }
        far.place(4, 92, -1, 1).feed(x);
        Check.loadFault("place 23", x, Asm.name("next"), 0, 7, 23);
        Check.same("nothing is written", x.peek(608), 0);
    }
}
