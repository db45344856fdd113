/** Words of RV32I instructions, by the tables of the ISA manual. */
final class Asm {
    static final int RET = jalr(0, 1, 0);

    private Asm() {
    }

    static int r(int funct7, int funct3, int rd, int rs1, int rs2) {
        return funct7 << 25 | rs2 << 20 | rs1 << 15 | funct3 << 12 | rd << 7 | 0x33;
    }

    static int i(int opcode, int funct3, int rd, int rs1, int imm) {
        return imm << 20 | rs1 << 15 | funct3 << 12 | rd << 7 | opcode;
    }

    static int addi(int rd, int rs1, int imm) {
        return i(0x13, 0, rd, rs1, imm);
    }

    static int jalr(int rd, int rs1, int imm) {
        return i(0x67, 0, rd, rs1, imm);
    }

    static int lui(int rd, int high) {
        return high << 12 | rd << 7 | 0x37;
    }

    static int auipc(int rd, int high) {
        return high << 12 | rd << 7 | 0x17;
    }

    static int lw(int rd, int rs1, int imm) {
        return i(0x03, 2, rd, rs1, imm);
    }

    static int store(int funct3, int rs2, int rs1, int imm) {
        return (imm >> 5 & 127) << 25 | rs2 << 20 | rs1 << 15 | funct3 << 12 | (imm & 31) << 7 | 0x23;
    }

    static int sw(int rs2, int rs1, int imm) {
        return store(2, rs2, rs1, imm);
    }

    static int branch(int funct3, int rs1, int rs2, int distance) {
        return (distance >> 12 & 1) << 31 | (distance >> 5 & 63) << 25 | rs2 << 20 | rs1 << 15 | funct3 << 12
            | (distance >> 1 & 15) << 8 | (distance >> 11 & 1) << 7 | 0x63;
    }

    static int jal(int rd, int distance) {
        return (distance >> 20 & 1) << 31 | (distance >> 1 & 1023) << 21 | (distance >> 11 & 1) << 20
            | (distance >> 12 & 255) << 12 | rd << 7 | 0x6F;
    }

    /** Two words that put any number into a register. */
    static int[] li(int rd, int value) {
        return new int[] {lui(rd, value + 2048 >>> 12), addi(rd, rd, value)};
    }

    static int name(String text) {
        return text.charAt(0) | text.charAt(1) << 8 | text.charAt(2) << 16 | text.charAt(3) << 24;
    }

    /** Pokes words into the kernel from an address on and makes a symbol of that address. */
    static void kernel(ModuleLoader x, String name, int address, int... words) {
        for (int k = 0; k < words.length; k++) {
            x.poke(address + 4 * k, words[k]);
        }
        if (x.lookup(name(name), 0) == ModuleLoader.NONE) {
            x.symbol(name(name), 0, address);
        }
    }
}
