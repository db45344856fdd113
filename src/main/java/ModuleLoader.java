import java.util.Arrays;

/** Loads modules into the memory of a small RV32I machine, runs what they bring, and lets them go again. */
public final class ModuleLoader {
    public static final int NONE = -1;

    private static final int KERNEL_BYTES = 512;
    private static final int MOST_FUEL = 2000;

    private static final int FAULT_NO_FILE = 1;
    private static final int FAULT_MODULE_NAME_OR_NUMBER = 2;
    private static final int FAULT_IMPORT_MISSING = 3;
    private static final int FAULT_IMPORT_CHECK = 4;
    private static final int FAULT_EXPORT = 5;
    private static final int FAULT_NO_ROOM = 6;
    private static final int FAULT_DISTANCE = 7;
    private static final int FAULT_TRAP = 8;
    private static final int FAULT_OUT_OF_FUEL = 9;
    private static final int FAULT_INIT_RETURNED = 10;
    private static final int FAULT_NEEDED = 11;

    private final Memory memory;
    private final Machine machine;
    private final Tape tape;
    private final ModuleFile file;
    private final SymbolTable symbols;
    private final ModuleTable modules;
    private final Report report;
    private boolean sealed;

    public ModuleLoader() {
        memory = new Memory();
        machine = new Machine(memory);
        tape = new Tape();
        file = new ModuleFile(tape);
        symbols = new SymbolTable();
        modules = new ModuleTable();
        report = new Report();
        sealed = false;
    }

    public void poke(int address, int word) throws IndexOutOfBoundsException, IllegalStateException {
        if (!isWordBelow(address, KERNEL_BYTES)) {
            throw new IndexOutOfBoundsException();
        }
        if (sealed) {
            throw new IllegalStateException();
        }
        memory.putWord(address, word);
    }

    public boolean seal() {
        if (sealed) {
            return false;
        }
        sealed = true;
        memory.guard(0, KERNEL_BYTES, true);
        return true;
    }

    public void symbol(int name, int check, int address) throws IllegalArgumentException, IllegalStateException {
        if (!isName(name)) {
            throw new IllegalArgumentException();
        }
        if (symbols.find(name) != null || symbols.unused() == 0) {
            throw new IllegalStateException();
        }
        symbols.add(new Symbol(name, check, address, null));
    }

    public int feed(int word) {
        return tape.append(word, 4) ? tape.length() : NONE;
    }

    public int feedByte(int b) {
        return tape.append(b, 1) ? tape.length() : NONE;
    }

    public int load(int name, int fuel) throws IllegalArgumentException, IllegalStateException {
        if (!isName(name) || !isFuel(fuel)) {
            throw new IllegalArgumentException();
        }
        report.clear();
        LoadedModule coming = bringIn(name);
        tape.clear();
        if (coming != null && file.init != NONE) {
            execute(coming.address + file.init, 0, 0, fuel);
            judgeInit(coming);
        }
        if (coming == null || report.hasFault()) {
            throw new IllegalStateException();
        }
        return coming.address;
    }

    public int fault(int what) {
        switch (what) {
            case 0: return report.number;
            case 1: return report.which;
            case 2: return report.trap;
            case 3: return report.steps;
            case 4: return report.answer;
            default: return NONE;
        }
    }

    public void unload(int name, int fuel) throws IllegalArgumentException, IllegalStateException {
        LoadedModule leaving = modules.find(name);
        if (leaving == null || !isFuel(fuel)) {
            throw new IllegalArgumentException();
        }
        report.clear();
        if (modules.howManyNeed(leaving) > 0) {
            report.blame(FAULT_NEEDED, NONE);
        } else if (leaving.exit != NONE) {
            execute(leaving.address + leaving.exit, 0, 0, fuel);
        }
        if (report.hasFault()) {
            throw new IllegalStateException();
        }
        takeOut(leaving);
    }

    public int call(int name, int a, int b, int fuel) throws IllegalArgumentException, IllegalStateException {
        Symbol called = symbols.find(name);
        if (called == null || !isFuel(fuel)) {
            throw new IllegalArgumentException();
        }
        report.clear();
        execute(called.address, a, b, fuel);
        if (report.hasFault()) {
            throw new IllegalStateException();
        }
        return report.answer;
    }

    public int peek(int address) throws IndexOutOfBoundsException {
        if (!isWordBelow(address, Memory.BYTES)) {
            throw new IndexOutOfBoundsException();
        }
        return memory.wordAt(address);
    }

    public boolean isProtected(int address) {
        return memory.isGuarded(address);
    }

    public int register(int r) {
        return machine.registerAfterRun(r);
    }

    public int lookup(int name, int what) {
        Symbol found = symbols.find(name);
        if (found == null) {
            return NONE;
        }
        switch (what) {
            case 0: return found.address;
            case 1: return found.check;
            case 2: return found.owner == null ? 0 : found.owner.name;
            default: return NONE;
        }
    }

    public int module(int name, int what) {
        LoadedModule found = modules.find(name);
        if (found == null) {
            return NONE;
        }
        switch (what) {
            case 0: return found.address;
            case 1: return found.size;
            case 2: return found.exports;
            case 3: return modules.howManyNeed(found);
            case 4: return found.neededCount();
            default: return NONE;
        }
    }

    public int count(int what) {
        switch (what) {
            case 0: return modules.size();
            case 1: return symbols.size();
            case 2: return modules.freeRows();
            case 3: return modules.longestGap();
            case 4: return tape.length();
            default: return NONE;
        }
    }

    public int at(int k) {
        LoadedModule found = modules.get(k);
        return found == null ? NONE : found.name;
    }

    private static boolean isName(int word) {
        for (int shift = 0; shift < 32; shift += 8) {
            int letter = (word >>> shift) & 255;
            if (letter < 'a' || letter > 'z') {
                return false;
            }
        }
        return true;
    }

    private static boolean isFuel(int fuel) {
        return fuel >= 0 && fuel <= MOST_FUEL;
    }

    private static boolean isWordBelow(int address, int limit) {
        return address >= 0 && address < limit && (address & 3) == 0;
    }

    /** Puts the tape's module into memory and the tables: null, and the report tells why, if it can't come. */
    private LoadedModule bringIn(int name) {
        if (!file.read()) {
            report.blame(FAULT_NO_FILE, NONE);
            return null;
        }
        checkNames(name);
        int address = report.hasFault() ? NONE : findRoom();
        if (report.hasFault()) {
            return null;
        }
        writeImage(address);
        return enter(name, address);
    }

    private void checkNames(int name) {
        if (modules.find(name) != null || modules.isFull()) {
            report.blame(FAULT_MODULE_NAME_OR_NUMBER, NONE);
            return;
        }
        checkImports();
        if (!report.hasFault()) {
            checkExports();
        }
    }

    private void checkImports() {
        for (int i = 0; i < file.imports; i++) {
            Symbol wanted = symbols.find(file.importName(i));
            if (wanted == null) {
                report.blame(FAULT_IMPORT_MISSING, i);
                return;
            }
            if (wanted.check != file.importCheck(i)) {
                report.blame(FAULT_IMPORT_CHECK, i);
                return;
            }
        }
    }

    private void checkExports() {
        for (int i = 0; i < file.exports; i++) {
            if (symbols.find(file.exportName(i)) != null) {
                report.blame(FAULT_EXPORT, i);
                return;
            }
        }
        if (file.exports > symbols.unused()) {
            report.blame(FAULT_EXPORT, symbols.unused());
        }
    }

    private int findRoom() {
        int address = modules.firstFit(file.size);
        if (address == NONE) {
            report.blame(FAULT_NO_ROOM, NONE);
            return NONE;
        }
        for (int i = 0; i < file.places; i++) {
            if (!Mender.reaches(file.placeKind(i), distanceOf(i, address))) {
                report.blame(FAULT_DISTANCE, i);
                return NONE;
            }
        }
        return address;
    }

    private int valueOf(int place, int imageAddress) {
        int source = file.placeSource(place);
        if (source == NONE) {
            return imageAddress + file.placeAddend(place);
        }
        Symbol imported = symbols.find(file.importName(source));
        return (imported == null ? 0 : imported.address) + file.placeAddend(place);
    }

    private int distanceOf(int place, int imageAddress) {
        return valueOf(place, imageAddress) - (imageAddress + file.placeOffset(place));
    }

    private LoadedModule enter(int name, int address) {
        LoadedModule coming = new LoadedModule(name, address, file);
        for (int i = 0; i < file.imports; i++) {
            Symbol imported = symbols.find(file.importName(i));
            coming.need(imported == null ? null : imported.owner);
        }
        memory.guard(address, coming.guarded, true);
        for (int i = 0; i < file.exports; i++) {
            symbols.add(new Symbol(file.exportName(i), file.exportCheck(i), address + file.exportOffset(i), coming));
        }
        modules.insert(coming);
        return coming;
    }

    private void writeImage(int address) {
        for (int offset = 0; offset < file.size; offset += 4) {
            memory.putWord(address + offset, file.imageWord(offset));
        }
        for (int i = 0; i < file.places; i++) {
            int place = address + file.placeOffset(i);
            int value = Mender.isDistance(file.placeKind(i)) ? distanceOf(i, address) : valueOf(i, address);
            memory.putWord(place, Mender.mended(file.placeKind(i), memory.wordAt(place), value));
        }
    }

    private void judgeInit(LoadedModule coming) {
        if (!report.hasFault() && report.answer != 0) {
            report.blame(FAULT_INIT_RETURNED, NONE);
        }
        if (report.hasFault()) {
            takeOut(coming);
        }
    }

    private void takeOut(LoadedModule leaving) {
        memory.guard(leaving.address, leaving.guarded, false);
        symbols.removeOf(leaving);
        modules.remove(leaving);
    }

    private void execute(int start, int a, int b, int fuel) {
        machine.run(start, a, b, fuel);
        report.trap = machine.trap;
        report.steps = machine.steps;
        if (machine.trap != 0) {
            report.blame(FAULT_TRAP, NONE);
        } else if (!machine.hasReturned()) {
            report.blame(FAULT_OUT_OF_FUEL, NONE);
        } else {
            report.answer = machine.registerAfterRun(Machine.FIRST_ARGUMENT);
        }
    }

    /** What became of the latest load, unload or call. */
    private static final class Report {
        int number;
        int which;
        int trap;
        int steps;
        int answer;

        Report() {
            which = NONE;
        }

        void clear() {
            number = 0;
            which = NONE;
            trap = 0;
            steps = 0;
            answer = 0;
        }

        void blame(int faultNumber, int part) {
            number = faultNumber;
            which = part;
        }

        boolean hasFault() {
            return number != 0;
        }
    }

    private static final class Memory {
        static final int BYTES = 4096;

        private final int[] words;
        /** One for each word is enough: the kernel's bytes and every GUARD end at a multiple of 4. */
        private final boolean[] guardedWords;

        Memory() {
            words = new int[BYTES / 4];
            guardedWords = new boolean[BYTES / 4];
        }

        boolean holds(int address) {
            return address >= 0 && address < BYTES;
        }

        int wordAt(int address) {
            return holds(address) ? words[address >> 2] : 0;
        }

        void putWord(int address, int word) {
            if (holds(address)) {
                words[address >> 2] = word;
            }
        }

        /** The bytes from an address that is a multiple of size (1, 2 or 4), with zeros above them. */
        int partAt(int address, int size) {
            return holds(address) ? (words[address >> 2] >>> shiftOf(address)) & maskOf(size) : 0;
        }

        void putPart(int address, int size, int value) {
            if (!holds(address)) {
                return;
            }
            int shift = shiftOf(address);
            int mask = maskOf(size) << shift;
            words[address >> 2] = (words[address >> 2] & ~mask) | ((value << shift) & mask);
        }

        boolean isGuarded(int address) {
            return holds(address) && guardedWords[address >> 2];
        }

        void guard(int address, int bytes, boolean on) {
            for (int offset = 0; offset < bytes; offset += 4) {
                if (holds(address + offset)) {
                    guardedWords[(address + offset) >> 2] = on;
                }
            }
        }

        private static int shiftOf(int address) {
            return 8 * (address & 3);
        }

        private static int maskOf(int size) {
            return size == 4 ? -1 : (1 << (8 * size)) - 1;
        }
    }

    /** Runs RV32I instructions; what an instruction answers inside is its trap, 0 for none. */
    private static final class Machine {
        static final int FIRST_ARGUMENT = 10;

        private static final int REGISTERS = 32;
        private static final int RETURN_ADDRESS = -4;
        private static final int HIGH_20_BITS = -4096;
        private static final int SIGN = 1 << 31;

        private static final int TRAP_NEXT_NOT_ALIGNED = 1;
        private static final int TRAP_NEXT_OUTSIDE = 2;
        private static final int TRAP_NO_INSTRUCTION = 3;
        private static final int TRAP_NOT_ALIGNED = 4;
        private static final int TRAP_OUTSIDE = 5;
        private static final int TRAP_PROTECTED = 6;

        int trap;
        int steps;
        private final Memory memory;
        private final int[] registers;
        private int next;

        Machine(Memory itsMemory) {
            memory = itsMemory;
            registers = new int[REGISTERS];
        }

        void run(int start, int a, int b, int fuel) {
            Arrays.fill(registers, 0);
            registers[1] = RETURN_ADDRESS;
            registers[2] = Memory.BYTES;
            registers[FIRST_ARGUMENT] = a;
            registers[FIRST_ARGUMENT + 1] = b;
            next = start;
            trap = 0;
            steps = 0;
            while (next != RETURN_ADDRESS && trap == 0 && steps < fuel) {
                steps++;
                trap = step();
            }
        }

        boolean hasReturned() {
            return trap == 0 && next == RETURN_ADDRESS;
        }

        int registerAfterRun(int r) {
            return r >= 0 && r < REGISTERS ? registers[r] : 0;
        }

        private int step() {
            if ((next & 3) != 0) {
                return TRAP_NEXT_NOT_ALIGNED;
            }
            if (!memory.holds(next)) {
                return TRAP_NEXT_OUTSIDE;
            }
            int code = memory.wordAt(next);
            switch (code & 127) {
                case 0x37: return finish(code, code & HIGH_20_BITS, next + 4);
                case 0x17: return finish(code, next + (code & HIGH_20_BITS), next + 4);
                case 0x6F: return finish(code, next + 4, next + jumpDistance(code));
                case 0x67: return jumpToRegister(code);
                case 0x63: return branch(code);
                case 0x03: return readMemory(code);
                case 0x23: return writeMemory(code);
                case 0x13: return computeWithImmediate(code);
                case 0x33: return computeWithRegister(code);
                default: return TRAP_NO_INSTRUCTION;
            }
        }

        private int finish(int code, int result, int following) {
            int target = (code >>> 7) & 31;
            if (target != 0) {
                registers[target] = result;
            }
            next = following;
            return 0;
        }

        private int firstOf(int code) {
            return registers[(code >>> 15) & 31];
        }

        private int secondOf(int code) {
            return registers[(code >>> 20) & 31];
        }

        private static int kindOf(int code) {
            return (code >>> 12) & 7;
        }

        private static int jumpDistance(int code) {
            return ((code >> 31) << 20) | (code & 0xFF000) | (((code >>> 20) & 1) << 11) | (((code >>> 21) & 1023) << 1);
        }

        private static int branchDistance(int code) {
            return ((code >> 31) << 12) | (((code >>> 7) & 1) << 11) | (((code >>> 25) & 63) << 5)
                | (((code >>> 8) & 15) << 1);
        }

        private int jumpToRegister(int code) {
            if (kindOf(code) != 0) {
                return TRAP_NO_INSTRUCTION;
            }
            return finish(code, next + 4, (firstOf(code) + (code >> 20)) & -2);
        }

        private int branch(int code) {
            int kind = kindOf(code);
            if (kind == 2 || kind == 3) {
                return TRAP_NO_INSTRUCTION;
            }
            boolean holds = compares(kind, firstOf(code), secondOf(code));
            boolean wanted = (kind & 1) == 0;
            next += holds == wanted ? branchDistance(code) : 4;
            return 0;
        }

        /** What BEQ, BLT or BLTU asks; the kinds next to these ask for its contrary. */
        private static boolean compares(int kind, int x, int y) {
            switch (kind >> 1) {
                case 0: return x == y;
                case 2: return x < y;
                default: return isBelow(x, y);
            }
        }

        private static boolean isBelow(int x, int y) {
            return (x ^ SIGN) < (y ^ SIGN);
        }

        private int trapOfAccess(int address, int size) {
            if ((address & (size - 1)) != 0) {
                return TRAP_NOT_ALIGNED;
            }
            return memory.holds(address) ? 0 : TRAP_OUTSIDE;
        }

        private int readMemory(int code) {
            int kind = kindOf(code);
            if (kind == 3 || kind > 5) {
                return TRAP_NO_INSTRUCTION;
            }
            int size = 1 << (kind & 3);
            int address = firstOf(code) + (code >> 20);
            int accessTrap = trapOfAccess(address, size);
            if (accessTrap != 0) {
                return accessTrap;
            }
            int part = memory.partAt(address, size);
            int unused = kind < 4 ? 32 - 8 * size : 0;
            return finish(code, (part << unused) >> unused, next + 4);
        }

        private int writeMemory(int code) {
            int kind = kindOf(code);
            if (kind > 2) {
                return TRAP_NO_INSTRUCTION;
            }
            int size = 1 << kind;
            int address = firstOf(code) + (((code >> 25) << 5) | ((code >>> 7) & 31));
            int accessTrap = trapOfAccess(address, size);
            if (accessTrap != 0) {
                return accessTrap;
            }
            if (memory.isGuarded(address)) {
                return TRAP_PROTECTED;
            }
            memory.putPart(address, size, secondOf(code));
            next += 4;
            return 0;
        }

        private int computeWithImmediate(int code) {
            int kind = kindOf(code);
            boolean shifts = kind == 1 || kind == 5;
            int variant = shifts ? code >>> 25 : 0;
            if (variant != 0 && (variant != 32 || kind != 5)) {
                return TRAP_NO_INSTRUCTION;
            }
            return finish(code, computed(kind, variant != 0, firstOf(code), code >> 20), next + 4);
        }

        private int computeWithRegister(int code) {
            int kind = kindOf(code);
            int variant = code >>> 25;
            if (variant != 0 && (variant != 32 || (kind != 0 && kind != 5))) {
                return TRAP_NO_INSTRUCTION;
            }
            return finish(code, computed(kind, variant != 0, firstOf(code), secondOf(code)), next + 4);
        }

        /** Other: SUB for ADD, and shifts that keep the sign for those that don't. */
        private static int computed(int kind, boolean other, int x, int y) {
            switch (kind) {
                case 0: return other ? x - y : x + y;
                case 1: return x << (y & 31);
                case 2: return x < y ? 1 : 0;
                case 3: return isBelow(x, y) ? 1 : 0;
                case 4: return x ^ y;
                case 5: return other ? x >> (y & 31) : x >>> (y & 31);
                case 6: return x | y;
                default: return x & y;
            }
        }
    }

    private static final class Tape {
        private static final int BYTES = 1200;

        private final int[] words;
        private int used;

        Tape() {
            words = new int[BYTES / 4];
        }

        int length() {
            return used;
        }

        void clear() {
            used = 0;
        }

        boolean append(int word, int bytes) {
            if (used + bytes > BYTES) {
                return false;
            }
            for (int i = 0; i < bytes; i++) {
                appendByte((word >>> (8 * i)) & 255);
            }
            return true;
        }

        private void appendByte(int value) {
            int index = used >> 2;
            if (index >= words.length) {
                return;
            }
            int shift = 8 * (used & 3);
            // a word's first byte wipes out what an earlier tape left there
            words[index] = shift == 0 ? value : words[index] | (value << shift);
            used++;
        }

        int wordAt(int index) {
            return index >= 0 && index < words.length ? words[index] : 0;
        }
    }

    /** The tape read as a FILE; its parts are to be asked for only behind a read() that answered true. */
    private static final class ModuleFile {
        private static final int MAGIC = 1297040469;
        private static final int HEADER_WORDS = 8;
        private static final int MOST_BYTES = 512;
        private static final int MOST_IMPORTS = 8;
        private static final int MOST_EXPORTS = 8;
        private static final int MOST_PLACES = 24;
        private static final int IMPORT_WORDS = 2;
        private static final int EXPORT_WORDS = 3;
        private static final int PLACE_WORDS = 4;

        int size;
        int imports;
        int exports;
        int places;
        int init;
        int exit;
        int guarded;
        private final Tape tape;
        private int importsStart;
        private int exportsStart;
        private int placesStart;

        ModuleFile(Tape itsTape) {
            tape = itsTape;
        }

        boolean read() {
            if (tape.length() < 4 * HEADER_WORDS || tape.wordAt(0) != MAGIC) {
                return false;
            }
            readHeader();
            if (!headerHolds()) {
                return false;
            }
            importsStart = HEADER_WORDS + size / 4;
            exportsStart = importsStart + IMPORT_WORDS * imports;
            placesStart = exportsStart + EXPORT_WORDS * exports;
            int words = placesStart + PLACE_WORDS * places;
            return tape.length() == 4 * words && importsHold() && exportsHold() && placesHold();
        }

        private void readHeader() {
            size = tape.wordAt(1);
            imports = tape.wordAt(2);
            exports = tape.wordAt(3);
            places = tape.wordAt(4);
            init = tape.wordAt(5);
            exit = tape.wordAt(6);
            guarded = tape.wordAt(7);
        }

        private boolean headerHolds() {
            return size >= 4 && size <= MOST_BYTES && (size & 3) == 0
                && isUpTo(imports, MOST_IMPORTS) && isUpTo(exports, MOST_EXPORTS) && isUpTo(places, MOST_PLACES)
                && (init == NONE || isOffset(init)) && (exit == NONE || isOffset(exit))
                && isUpTo(guarded, size) && (guarded & 3) == 0;
        }

        private static boolean isUpTo(int number, int most) {
            return number >= 0 && number <= most;
        }

        private boolean isOffset(int number) {
            return isWordBelow(number, size);
        }

        private boolean importsHold() {
            for (int i = 0; i < imports; i++) {
                if (!isName(importName(i))) {
                    return false;
                }
            }
            return true;
        }

        private boolean exportsHold() {
            for (int i = 0; i < exports; i++) {
                if (!isName(exportName(i)) || !isOffset(exportOffset(i)) || isExportedBefore(i)) {
                    return false;
                }
            }
            return true;
        }

        private boolean isExportedBefore(int export) {
            for (int i = 0; i < export; i++) {
                if (exportName(i) == exportName(export)) {
                    return true;
                }
            }
            return false;
        }

        private boolean placesHold() {
            for (int i = 0; i < places; i++) {
                boolean hasSource = placeSource(i) == NONE || isUpTo(placeSource(i), imports - 1);
                if (!isUpTo(placeKind(i), Mender.LAST_KIND) || !isOffset(placeOffset(i)) || !hasSource) {
                    return false;
                }
            }
            return true;
        }

        int imageWord(int offset) {
            return tape.wordAt(HEADER_WORDS + offset / 4);
        }

        int importName(int i) {
            return tape.wordAt(importsStart + IMPORT_WORDS * i);
        }

        int importCheck(int i) {
            return tape.wordAt(importsStart + IMPORT_WORDS * i + 1);
        }

        int exportName(int i) {
            return tape.wordAt(exportsStart + EXPORT_WORDS * i);
        }

        int exportCheck(int i) {
            return tape.wordAt(exportsStart + EXPORT_WORDS * i + 1);
        }

        int exportOffset(int i) {
            return tape.wordAt(exportsStart + EXPORT_WORDS * i + 2);
        }

        int placeKind(int i) {
            return tape.wordAt(placesStart + PLACE_WORDS * i);
        }

        int placeOffset(int i) {
            return tape.wordAt(placesStart + PLACE_WORDS * i + 1);
        }

        int placeSource(int i) {
            return tape.wordAt(placesStart + PLACE_WORDS * i + 2);
        }

        int placeAddend(int i) {
            return tape.wordAt(placesStart + PLACE_WORDS * i + 3);
        }
    }

    /** How the word of a place is mended, by its KIND. */
    private static final class Mender {
        static final int LAST_KIND = 5;

        private static final int KIND_WORD = 0;
        private static final int KIND_HIGH_20 = 1;
        private static final int KIND_LOW_12 = 2;
        private static final int KIND_LOW_12_OF_STORE = 3;
        private static final int KIND_JUMP = 4;
        private static final int KIND_BRANCH = 5;
        private static final int JUMP_REACH = 1048576;
        private static final int BRANCH_REACH = 4096;
        private static final int STORE_AND_BRANCH_KEEP = 0x01FFF07F;

        static boolean isDistance(int kind) {
            return kind == KIND_JUMP || kind == KIND_BRANCH;
        }

        static boolean reaches(int kind, int distance) {
            if (!isDistance(kind)) {
                return true;
            }
            int reach = kind == KIND_JUMP ? JUMP_REACH : BRANCH_REACH;
            return (distance & 1) == 0 && distance >= -reach && distance < reach;
        }

        /** Value: S, or for the kinds that take one the distance to it. */
        static int mended(int kind, int word, int value) {
            switch (kind) {
                case KIND_WORD: return value;
                case KIND_HIGH_20: return (word & 0xFFF) | ((value + 2048) & 0xFFFFF000);
                case KIND_LOW_12: return (word & 0xFFFFF) | (value << 20);
                case KIND_LOW_12_OF_STORE: return (word & STORE_AND_BRANCH_KEEP) | asInStore(value);
                case KIND_JUMP: return (word & 0xFFF) | asInJump(value);
                default: return (word & STORE_AND_BRANCH_KEEP) | asInBranch(value);
            }
        }

        private static int bits(int value, int lowest, int howMany) {
            return (value >>> lowest) & ((1 << howMany) - 1);
        }

        private static int asInStore(int value) {
            return (bits(value, 5, 7) << 25) | (bits(value, 0, 5) << 7);
        }

        private static int asInJump(int distance) {
            return (bits(distance, 20, 1) << 31) | (bits(distance, 1, 10) << 21)
                | (bits(distance, 11, 1) << 20) | (bits(distance, 12, 8) << 12);
        }

        private static int asInBranch(int distance) {
            return (bits(distance, 12, 1) << 31) | (bits(distance, 5, 6) << 25)
                | (bits(distance, 1, 4) << 8) | (bits(distance, 11, 1) << 7);
        }
    }

    private static final class Symbol {
        final int name;
        final int check;
        final int address;
        /** The kernel's symbols have none. */
        final LoadedModule owner;

        Symbol(int itsName, int itsCheck, int itsAddress, LoadedModule itsOwner) {
            name = itsName;
            check = itsCheck;
            address = itsAddress;
            owner = itsOwner;
        }
    }

    private static final class SymbolTable {
        private static final int MOST = 40;

        private final Symbol[] entries;
        private int used;

        SymbolTable() {
            entries = new Symbol[MOST];
        }

        int size() {
            return used;
        }

        int unused() {
            return MOST - used;
        }

        Symbol find(int name) {
            for (int i = 0; i < used; i++) {
                if (entries[i] != null && entries[i].name == name) {
                    return entries[i];
                }
            }
            return null;
        }

        void add(Symbol coming) {
            if (used < MOST) {
                entries[used] = coming;
                used++;
            }
        }

        void removeOf(LoadedModule owner) {
            int kept = 0;
            for (int i = 0; i < used; i++) {
                if (entries[i] != null && entries[i].owner != owner) {
                    entries[kept] = entries[i];
                    kept++;
                }
            }
            used = kept;
        }
    }

    private static final class LoadedModule {
        final int name;
        final int address;
        final int size;
        final int exports;
        final int exit;
        final int guarded;
        final int firstRow;
        final int rowBehind;
        private final LoadedModule[] needed;
        private int neededUsed;

        LoadedModule(int itsName, int itsAddress, ModuleFile file) {
            name = itsName;
            address = itsAddress;
            size = file.size;
            exports = file.exports;
            exit = file.exit;
            guarded = file.guarded;
            firstRow = (itsAddress - ModuleTable.ARENA_START) / ModuleTable.ROW_BYTES;
            rowBehind = firstRow + ModuleTable.rowsFor(file.size);
            needed = new LoadedModule[ModuleFile.MOST_IMPORTS];
        }

        int neededCount() {
            return neededUsed;
        }

        boolean needs(LoadedModule other) {
            for (int i = 0; i < neededUsed; i++) {
                if (needed[i] == other) {
                    return true;
                }
            }
            return false;
        }

        void need(LoadedModule other) {
            if (other != null && !needs(other) && neededUsed < needed.length) {
                needed[neededUsed] = other;
                neededUsed++;
            }
        }
    }

    /** The modules in the order of their addresses; the room is what lies between them. */
    private static final class ModuleTable {
        static final int ARENA_START = KERNEL_BYTES;
        static final int ROW_BYTES = 16;

        private static final int ROWS = 208;
        private static final int MOST = 12;

        private final LoadedModule[] entries;
        private int used;

        ModuleTable() {
            entries = new LoadedModule[MOST];
        }

        static int rowsFor(int bytes) {
            return (bytes + ROW_BYTES - 1) / ROW_BYTES;
        }

        int size() {
            return used;
        }

        boolean isFull() {
            return used == MOST;
        }

        LoadedModule get(int k) {
            return k >= 0 && k < used ? entries[k] : null;
        }

        LoadedModule find(int name) {
            for (int i = 0; i < used; i++) {
                if (entries[i] != null && entries[i].name == name) {
                    return entries[i];
                }
            }
            return null;
        }

        int howManyNeed(LoadedModule wanted) {
            int needing = 0;
            for (int i = 0; i < used; i++) {
                if (entries[i] != null && entries[i].needs(wanted)) {
                    needing++;
                }
            }
            return needing;
        }

        void insert(LoadedModule coming) {
            if (isFull()) {
                return;
            }
            int place = used;
            while (place > 0 && entries[place - 1] != null && entries[place - 1].address > coming.address) {
                entries[place] = entries[place - 1];
                place--;
            }
            entries[place] = coming;
            used++;
        }

        void remove(LoadedModule leaving) {
            int kept = 0;
            for (int i = 0; i < used; i++) {
                if (entries[i] != leaving) {
                    entries[kept] = entries[i];
                    kept++;
                }
            }
            used = kept;
        }

        /** The row behind module k, or the arena's first one if k is before all modules. */
        private int gapStart(int k) {
            LoadedModule before = get(k);
            return before == null ? 0 : before.rowBehind;
        }

        /** How many free rows lie between module k and the next one. */
        private int gapRows(int k) {
            LoadedModule behind = get(k + 1);
            return (behind == null ? ROWS : behind.firstRow) - gapStart(k);
        }

        int firstFit(int bytes) {
            for (int k = -1; k < used; k++) {
                if (gapRows(k) >= rowsFor(bytes)) {
                    return ARENA_START + ROW_BYTES * gapStart(k);
                }
            }
            return NONE;
        }

        int freeRows() {
            int free = 0;
            for (int k = -1; k < used; k++) {
                free += gapRows(k);
            }
            return free;
        }

        int longestGap() {
            int longest = 0;
            for (int k = -1; k < used; k++) {
                longest = Math.max(longest, gapRows(k));
            }
            return longest;
        }
    }
}
