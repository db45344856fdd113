import java.util.ArrayList;
import java.util.HashSet;
import java.util.List;
import java.util.Set;
import java.util.TreeMap;

/**
 * A second program with the document's face, written for plainness alone: bytes, rows and unsigned numbers as they
 * stand in the document, an instruction known by its row in a table. ModelTest holds the program against it.
 */
final class Model {
    /** Name, and the fixed bits of an instruction: a mask, and what stands there. */
    static final Object[][] INSTRUCTIONS = {
        {"LUI", 0x7F, 0x37}, {"AUIPC", 0x7F, 0x17}, {"JAL", 0x7F, 0x6F}, {"JALR", 0x707F, 0x67},
        {"BEQ", 0x707F, 0x63}, {"BNE", 0x707F, 0x1063}, {"BLT", 0x707F, 0x4063}, {"BGE", 0x707F, 0x5063},
        {"BLTU", 0x707F, 0x6063}, {"BGEU", 0x707F, 0x7063},
        {"LB", 0x707F, 0x03}, {"LH", 0x707F, 0x1003}, {"LW", 0x707F, 0x2003}, {"LBU", 0x707F, 0x4003},
        {"LHU", 0x707F, 0x5003}, {"SB", 0x707F, 0x23}, {"SH", 0x707F, 0x1023}, {"SW", 0x707F, 0x2023},
        {"ADDI", 0x707F, 0x13}, {"SLTI", 0x707F, 0x2013}, {"SLTIU", 0x707F, 0x3013}, {"XORI", 0x707F, 0x4013},
        {"ORI", 0x707F, 0x6013}, {"ANDI", 0x707F, 0x7013},
        {"SLLI", 0xFE00707F, 0x1013}, {"SRLI", 0xFE00707F, 0x5013}, {"SRAI", 0xFE00707F, 0x40005013},
        {"ADD", 0xFE00707F, 0x33}, {"SUB", 0xFE00707F, 0x40000033}, {"SLL", 0xFE00707F, 0x1033},
        {"SLT", 0xFE00707F, 0x2033}, {"SLTU", 0xFE00707F, 0x3033}, {"XOR", 0xFE00707F, 0x4033},
        {"SRL", 0xFE00707F, 0x5033}, {"SRA", 0xFE00707F, 0x40005033}, {"OR", 0xFE00707F, 0x6033},
        {"AND", 0xFE00707F, 0x7033},
    };

    private static final long WORD = 1L << 32;
    private static final long END = 4294967292L;
    private static final long NO_OFFSET = 4294967295L;

    private record Sym(int name, int check, int address, int module) {
    }

    private record Mod(int name, int address, int size, int exports, long exit, int guard, Set<Integer> needs) {
    }

    private static final class Fault extends RuntimeException {
        private static final long serialVersionUID = 1L;
        final int number;
        final int which;

        Fault(int number, int which) {
            this.number = number;
            this.which = which;
        }
    }

    private final int[] bytes = new int[4096];
    private final int[] rowOwner = new int[208];
    private final TreeMap<Integer, Sym> symbols = new TreeMap<>();
    private final TreeMap<Integer, Mod> modules = new TreeMap<>();
    private final List<Integer> tape = new ArrayList<>();
    private boolean sealed = false;
    private long[] registers = new long[32];
    private int[] report = {0, -1, 0, 0, 0};

    /** The names of the symbols that are there: for those who want to import one. */
    List<Integer> symbolNames() {
        return new ArrayList<>(symbols.keySet());
    }

    static String nameOf(int word) {
        for (Object[] row : INSTRUCTIONS) {
            if ((word & (int) row[1]) == (int) row[2]) {
                return (String) row[0];
            }
        }
        return "";
    }

    void poke(int address, int word) {
        if (address < 0 || address >= 512 || address % 4 != 0) {
            throw new IndexOutOfBoundsException();
        }
        if (sealed) {
            throw new IllegalStateException();
        }
        put(address, 4, word);
    }

    boolean seal() {
        boolean first = !sealed;
        sealed = true;
        return first;
    }

    void symbol(int name, int check, int address) {
        if (!isName(name)) {
            throw new IllegalArgumentException();
        }
        if (symbols.containsKey(name) || symbols.size() >= 40) {
            throw new IllegalStateException();
        }
        symbols.put(name, new Sym(name, check, address, 0));
    }

    int feed(int word) {
        if (tape.size() > 1196) {
            return -1;
        }
        for (int k = 0; k < 4; k++) {
            tape.add(word >> (8 * k) & 255);
        }
        return tape.size();
    }

    int feedByte(int b) {
        if (tape.size() > 1199) {
            return -1;
        }
        tape.add(b & 255);
        return tape.size();
    }

    int load(int name, int fuel) {
        if (!isName(name) || fuel < 0 || fuel > 2000) {
            throw new IllegalArgumentException();
        }
        report = new int[] {0, -1, 0, 0, 0};
        List<Integer> file = new ArrayList<>(tape);
        tape.clear();
        try {
            return loaded(name, fuel, file);
        } catch (Fault f) {
            report[0] = f.number;
            report[1] = f.which;
            throw new IllegalStateException();
        }
    }

    int fault(int what) {
        return what < 0 || what > 4 ? -1 : report[what];
    }

    void unload(int name, int fuel) {
        if (!modules.containsKey(name) || fuel < 0 || fuel > 2000) {
            throw new IllegalArgumentException();
        }
        report = new int[] {0, -1, 0, 0, 0};
        Mod leaving = modules.get(name);
        try {
            if (module(name, 3) > 0) {
                throw new Fault(11, -1);
            }
            if (leaving.exit != NO_OFFSET) {
                run(leaving.address + leaving.exit, 0, 0, fuel);
            }
        } catch (Fault f) {
            report[0] = f.number;
            throw new IllegalStateException();
        }
        remove(name);
    }

    int call(int name, int a, int b, int fuel) {
        if (!symbols.containsKey(name) || fuel < 0 || fuel > 2000) {
            throw new IllegalArgumentException();
        }
        report = new int[] {0, -1, 0, 0, 0};
        try {
            return run(unsigned(symbols.get(name).address), a, b, fuel);
        } catch (Fault f) {
            report[0] = f.number;
            throw new IllegalStateException();
        }
    }

    int peek(int address) {
        if (address < 0 || address > 4092 || address % 4 != 0) {
            throw new IndexOutOfBoundsException();
        }
        return (int) get(address, 4);
    }

    boolean isProtected(int address) {
        if (address >= 0 && address <= 511) {
            return sealed;
        }
        for (Mod m : modules.values()) {
            if (address >= m.address && address < m.address + m.guard) {
                return true;
            }
        }
        return false;
    }

    int register(int r) {
        return r < 0 || r > 31 ? 0 : (int) registers[r];
    }

    int lookup(int name, int what) {
        Sym s = symbols.get(name);
        return s == null || what < 0 || what > 2 ? -1 : new int[] {s.address, s.check, s.module}[what];
    }

    int module(int name, int what) {
        Mod m = modules.get(name);
        if (m == null || what < 0 || what > 4) {
            return -1;
        }
        int needing = 0;
        for (Mod other : modules.values()) {
            needing += other.needs.contains(name) ? 1 : 0;
        }
        return new int[] {m.address, m.size, m.exports, needing, m.needs.size()}[what];
    }

    int count(int what) {
        int free = 0;
        int together = 0;
        int most = 0;
        for (int owner : rowOwner) {
            free += owner == 0 ? 1 : 0;
            together = owner == 0 ? together + 1 : 0;
            most = Math.max(most, together);
        }
        return what < 0 || what > 4 ? -1 : new int[] {modules.size(), symbols.size(), free, most, tape.size()}[what];
    }

    int at(int k) {
        List<Mod> sorted = new ArrayList<>(modules.values());
        sorted.sort((m, n) -> Integer.compare(m.address, n.address));
        return k < 0 || k >= sorted.size() ? -1 : sorted.get(k).name;
    }

    private static long unsigned(int word) {
        return word & 0xFFFFFFFFL;
    }

    private static boolean isName(long word) {
        for (int k = 0; k < 4; k++) {
            char letter = (char) (word >> (8 * k) & 255);
            if ("abcdefghijklmnopqrstuvwxyz".indexOf(letter) < 0) {
                return false;
            }
        }
        return true;
    }

    private long get(long address, int size) {
        long value = 0;
        for (int k = size - 1; k >= 0; k--) {
            value = value * 256 + bytes[(int) address + k];
        }
        return value;
    }

    private void put(long address, int size, long value) {
        for (int k = 0; k < size; k++) {
            bytes[(int) address + k] = (int) (value >> (8 * k) & 255);
        }
    }

    private void remove(int name) {
        modules.remove(name);
        symbols.values().removeIf(s -> s.module == name);
        for (int row = 0; row < 208; row++) {
            rowOwner[row] = rowOwner[row] == name ? 0 : rowOwner[row];
        }
    }

    private static void fileIf(boolean holds) {
        if (!holds) {
            throw new Fault(1, -1);
        }
    }

    private int loaded(int name, int fuel, List<Integer> file) {
        long[] w = new long[file.size() / 4];
        for (int k = 0; k < 4 * w.length; k++) {
            w[k / 4] += (long) file.get(k) << (8 * (k % 4));
        }
        fileIf(file.size() % 4 == 0 && w.length >= 8 && w[0] == 1297040469L);
        fileIf(w[1] >= 4 && w[1] <= 512 && w[1] % 4 == 0 && w[2] <= 8 && w[3] <= 8 && w[4] <= 24);
        int size = (int) w[1];
        int imports = 8 + size / 4;
        int exports = imports + 2 * (int) w[2];
        int places = exports + 3 * (int) w[3];
        fileIf(w.length == places + 4 * w[4]);
        fileIf(w[5] == NO_OFFSET || isOffset(w[5], size));
        fileIf(w[6] == NO_OFFSET || isOffset(w[6], size));
        fileIf(w[7] <= size && w[7] % 4 == 0);
        Set<Long> exported = new HashSet<>();
        for (int k = imports; k < exports; k += 2) {
            fileIf(isName(w[k]));
        }
        for (int k = exports; k < places; k += 3) {
            fileIf(isName(w[k]) && isOffset(w[k + 2], size) && exported.add(w[k]));
        }
        for (int k = places; k < w.length; k += 4) {
            fileIf(w[k] <= 5 && isOffset(w[k + 1], size) && (w[k + 2] < w[2] || w[k + 2] == NO_OFFSET));
        }
        return linked(name, fuel, w, new int[] {imports, exports, places});
    }

    private static boolean isOffset(long word, int size) {
        return word < size && word % 4 == 0;
    }

    private int linked(int name, int fuel, long[] w, int[] parts) {
        if (modules.containsKey(name) || modules.size() == 12) {
            throw new Fault(2, -1);
        }
        Set<Integer> needs = new HashSet<>();
        for (int k = 0; k < w[2]; k++) {
            Sym s = symbols.get((int) w[parts[0] + 2 * k]);
            if (s == null) {
                throw new Fault(3, k);
            }
            if (unsigned(s.check) != w[parts[0] + 2 * k + 1]) {
                throw new Fault(4, k);
            }
            if (s.module != 0) {
                needs.add(s.module);
            }
        }
        for (int k = 0; k < w[3]; k++) {
            if (symbols.containsKey((int) w[parts[1] + 3 * k])) {
                throw new Fault(5, k);
            }
        }
        for (int k = 0; k < w[3]; k++) {
            if (symbols.size() + k + 1 > 40) {
                throw new Fault(5, k);
            }
        }
        int row = freeRow((int) (w[1] + 15) / 16);
        int address = 512 + 16 * row;
        long[] image = mendedImage(w, parts, address);
        for (int k = 0; k < image.length; k++) {
            put(address + 4L * k, 4, image[k]);
        }
        for (int k = 0; k < (w[1] + 15) / 16; k++) {
            rowOwner[row + k] = name;
        }
        for (int k = parts[1]; k < parts[2]; k += 3) {
            symbols.put((int) w[k], new Sym((int) w[k], (int) w[k + 1], address + (int) w[k + 2], name));
        }
        modules.put(name, new Mod(name, address, (int) w[1], (int) w[3], w[6], (int) w[7], needs));
        if (w[5] != NO_OFFSET) {
            runInit(name, address + w[5], fuel);
        }
        return address;
    }

    private void runInit(int name, long start, int fuel) {
        try {
            if (run(start, 0, 0, fuel) != 0) {
                throw new Fault(10, -1);
            }
        } catch (Fault f) {
            remove(name);
            throw f;
        }
    }

    private int freeRow(int rows) {
        for (int row = 0; row + rows <= 208; row++) {
            boolean free = true;
            for (int k = 0; k < rows; k++) {
                free &= rowOwner[row + k] == 0;
            }
            if (free) {
                return row;
            }
        }
        throw new Fault(6, -1);
    }

    private long[] mendedImage(long[] w, int[] parts, int address) {
        long[] image = new long[(int) w[1] / 4];
        System.arraycopy(w, 8, image, 0, image.length);
        for (int k = 0; k < w[4]; k++) {
            int at = parts[2] + 4 * k;
            int offset = (int) w[at + 1];
            long source = w[at + 2] == NO_OFFSET ? address
                : unsigned(symbols.get((int) w[parts[0] + 2 * (int) w[at + 2]]).address);
            long s = (source + w[at + 3]) % WORD;
            // the machine's addresses go round, so a distance is the shorter way
            long distance = Math.floorMod(s - address - offset + WORD / 2, WORD) - WORD / 2;
            long[] reach = {WORD, WORD, WORD, WORD, 1048576, 4096};
            int kind = (int) w[at];
            if (kind >= 4 && (distance % 2 != 0 || distance < -reach[kind] || distance > reach[kind] - 2)) {
                throw new Fault(7, k);
            }
            image[offset / 4] = mended(kind, image[offset / 4], s, distance);
        }
        return image;
    }

    /** Where bits of a number go in an instruction: from the highest bit down, number's bit for instruction's bit. */
    private static final int[][] FIELDS = {
        {}, {},
        {11, 31, 10, 30, 9, 29, 8, 28, 7, 27, 6, 26, 5, 25, 4, 24, 3, 23, 2, 22, 1, 21, 0, 20},
        {11, 31, 10, 30, 9, 29, 8, 28, 7, 27, 6, 26, 5, 25, 4, 11, 3, 10, 2, 9, 1, 8, 0, 7},
        {20, 31, 10, 30, 9, 29, 8, 28, 7, 27, 6, 26, 5, 25, 4, 24, 3, 23, 2, 22, 1, 21, 11, 20, 19, 19, 18, 18, 17,
            17, 16, 16, 15, 15, 14, 14, 13, 13, 12, 12},
        {12, 31, 10, 30, 9, 29, 8, 28, 7, 27, 6, 26, 5, 25, 4, 11, 3, 10, 2, 9, 1, 8, 11, 7},
    };

    private static long mended(int kind, long word, long s, long distance) {
        if (kind == 0) {
            return s;
        }
        if (kind == 1) {
            return (s + 2048) % WORD / 4096 * 4096 + word % 4096;
        }
        long value = kind >= 4 ? distance : s;
        long result = word;
        for (int k = 0; k < FIELDS[kind].length; k += 2) {
            long bit = 1L << FIELDS[kind][k + 1];
            result = (value >> FIELDS[kind][k] & 1) == 1 ? result | bit : result & ~bit;
        }
        return result;
    }

    /** The number that an instruction holds: the fields above read the other way, with the highest bit as its sign. */
    private static long immediate(int kind, int code) {
        long value = 0;
        for (int k = 0; k < FIELDS[kind].length; k += 2) {
            value |= (long) (code >>> FIELDS[kind][k + 1] & 1) << FIELDS[kind][k];
        }
        return (value >> FIELDS[kind][0] & 1) == 1 ? value - (1L << (FIELDS[kind][0] + 1)) : value;
    }

    private int run(long start, int a, int b, int fuel) {
        registers = new long[32];
        registers[1] = END;
        registers[2] = 4096;
        registers[10] = unsigned(a);
        registers[11] = unsigned(b);
        long pc = start;
        int left = fuel;
        while (pc != END) {
            if (left == 0) {
                throw new Fault(9, -1);
            }
            left--;
            report[3]++;
            pc = step(pc);
        }
        report[4] = (int) registers[10];
        return report[4];
    }

    private Fault trap(int number) {
        report[2] = number;
        return new Fault(8, -1);
    }

    private static long signed(long word) {
        return word >= WORD / 2 ? word - WORD : word;
    }

    private long step(long pc) {
        if (pc % 4 != 0) {
            throw trap(1);
        }
        if (pc > 4095) {
            throw trap(2);
        }
        int code = (int) get(pc, 4);
        String name = nameOf(code);
        if (name.isEmpty()) {
            throw trap(3);
        }
        long x = registers[code >>> 15 & 31];
        long y = registers[code >>> 20 & 31];
        switch (code & 127) {
            case 0x37: return write(code, unsigned(code & 0xFFFFF000), pc + 4);
            case 0x17: return write(code, pc + unsigned(code & 0xFFFFF000), pc + 4);
            case 0x6F: return write(code, pc + 4, pc + immediate(4, code));
            case 0x67: return write(code, pc + 4, (x + immediate(2, code)) & ~1L);
            case 0x63: return isTaken(name, x, y) ? Math.floorMod(pc + immediate(5, code), WORD) : pc + 4;
            case 0x03: return write(code, read(name, Math.floorMod(x + immediate(2, code), WORD)), pc + 4);
            case 0x23: return store(name, Math.floorMod(x + immediate(3, code), WORD), y, pc + 4);
            case 0x13: return write(code, compute(name.replace("I", ""), x, Math.floorMod(immediate(2, code), WORD)),
                pc + 4);
            default: return write(code, compute(name, x, y), pc + 4);
        }
    }

    private long write(int code, long value, long next) {
        if ((code >>> 7 & 31) != 0) {
            registers[code >>> 7 & 31] = Math.floorMod(value, WORD);
        }
        return Math.floorMod(next, WORD);
    }

    private static boolean isTaken(String name, long x, long y) {
        switch (name) {
            case "BEQ": return x == y;
            case "BNE": return x != y;
            case "BLT": return signed(x) < signed(y);
            case "BGE": return signed(x) >= signed(y);
            case "BLTU": return x < y;
            default: return x >= y;
        }
    }

    private static int sizeOf(String name) {
        return name.charAt(1) == 'B' ? 1 : name.charAt(1) == 'H' ? 2 : 4;
    }

    private long read(String name, long address) {
        int size = sizeOf(name);
        if (address % size != 0) {
            throw trap(4);
        }
        if (address > 4095) {
            throw trap(5);
        }
        long value = get(address, size);
        long range = 1L << (8 * size);
        return !name.endsWith("U") && value >= range / 2 ? value - range : value;
    }

    private long store(String name, long address, long value, long next) {
        int size = sizeOf(name);
        if (address % size != 0) {
            throw trap(4);
        }
        if (address > 4095) {
            throw trap(5);
        }
        for (int k = 0; k < size; k++) {
            if (isProtected((int) address + k)) {
                throw trap(6);
            }
        }
        put(address, size, value);
        return next;
    }

    private static long compute(String name, long x, long y) {
        switch (name) {
            case "ADD": return x + y;
            case "SUB": return x - y;
            case "SLL": return x << (y % 32);
            case "SLT": return signed(x) < signed(y) ? 1 : 0;
            case "SLTU": return x < y ? 1 : 0;
            case "XOR": return x ^ y;
            case "SRL": return x >> (y % 32);
            case "SRA": return signed(x) >> (y % 32);
            case "OR": return x | y;
            default: return x & y;
        }
    }
}
