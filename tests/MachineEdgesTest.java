/**
 * The edges of "Terms", 3 THE MACHINE, sentence by sentence (promises 11 to 20): each flag on both sides, counts that
 * end, what goes round at 65536, ports, R, REQUESTS, STUCK. What is due was counted by hand.
 */
public final class MachineEdgesTest {
    private static final String TERMS = "Terms 3";
    private static final int AF = 0;
    private static final int BC = 1;
    private static final int DE = 2;
    private static final int HL = 3;
    private static final int IX = 8;
    private static final int IY = 9;
    private static final int SP = 10;
    private static final int PC = 11;
    private static final int I = 12;
    private static final int R = 13;
    private static final int L1 = 14;
    private static final int L2 = 15;
    private static final int MODE = 16;
    private static final int START = 16384;

    public static void main(String[] args) {
        loads();
        additions();
        subtractions();
        logic();
        counts();
        wideAdditions();
        turns();
        bits();
        aAlone();
        decimal();
        halves();
        latches();
        inputs();
        moveBlocks();
        compareBlocks();
        portBlocks();
        repeats();
        jumps();
        stack();
        round();
        exchanges();
        ports();
        refresh();
        halt();
        enabling();
        hard();
        plain();
        stuck();
        Check.end("MachineEdgesTest");
    }

    /** An object whose PC stands at the octets, and whose registers are set as told: number, value. */
    private static OpcodeForge ready(String octets, int... state) {
        OpcodeForge forge = new OpcodeForge();
        forge.set(PC, START);
        for (int i = 0; i + 1 < state.length; i += 2) {
            Check.same("set(" + state[i] + ", " + state[i + 1] + ")", forge.set(state[i], state[i + 1]) >= 0 ? 1 : 0, 1);
        }
        int at = forge.register(PC);
        for (int octet : Check.numbers(octets)) {
            forge.put(at & 65535, octet);
            at++;
        }
        return forge;
    }

    private static OpcodeForge did(String octets, int... state) {
        OpcodeForge forge = ready(octets, state);
        Check.same("step of " + octets, forge.step(), 1);
        return forge;
    }

    private static void is(String what, OpcodeForge forge, int... due) {
        for (int i = 0; i + 1 < due.length; i += 2) {
            Check.same(what + ", register " + due[i], forge.register(due[i]), due[i + 1]);
        }
    }

    /** One step with A, F and an octet behind the opcode: what A and F are then. */
    private static void af(String octets, int af, int due) {
        is(octets + " with AF " + Integer.toHexString(af), did(octets, AF, af), AF, due, BC, 0, DE, 0, HL, 0, SP, 65535);
    }

    private static final int[] PAIR = {BC, BC, DE, DE, HL, HL, -1, AF};

    /** The octet that R[y] is, where all registers are set as in loads(). */
    private static int octetOf(OpcodeForge forge, int y) {
        if (y == 6) {
            return forge.octet(0x5556);
        }
        int pair = forge.register(PAIR[y]);
        return y == 7 || y % 2 == 0 ? pair >> 8 : pair & 255;
    }

    private static void loads() {
        Check.holds("Terms 1 and 3", "TABLES: R: B C D E H L (HL) A; LD R[y],R[z], LD R[y],n");
        int[] values = {0x11, 0x22, 0x33, 0x44, 0x55, 0x56, 0x77, 0x88};
        for (int y = 0; y < 8; y++) {
            for (int z = 0; z <= 8; z++) {
                if (y == 6 && z == 6) {
                    continue;
                }
                String octets = z == 8 ? (6 + 8 * y) + " 153" : "" + (64 + 8 * y + z);
                OpcodeForge forge = ready(octets, BC, 0x1122, DE, 0x3344, HL, 0x5556, AF, 0x8899);
                forge.put(0x5556, 0x77);
                Check.same("step of " + octets, forge.step(), 1);
                for (int r = 0; r < 8; r++) {
                    int due = r == y ? (z == 8 ? 153 : values[z]) : values[r];
                    Check.same("R[" + r + "] behind " + octets, octetOf(forge, r), due);
                }
                Check.same("F behind " + octets, forge.register(AF) & 255, 0x99);
            }
        }
        Check.holds("Terms 1 and 3", "RP: BC DE HL SP. RQ: BC DE HL AF");
        int[] pairs = {BC, DE, HL, SP};
        int[] pushes = {BC, DE, HL, AF};
        for (int p = 0; p < 4; p++) {
            is("LD RP[" + p + "],m", did((1 + 16 * p) + " 52 18"), pairs[p], 0x1234);
            OpcodeForge forge = did("" + (197 + 16 * p), pushes[p], 0x1234, SP, 20002);
            pushed("PUSH RQ[" + p + "]", forge, 20000, 0x1234);
            forge.set(PC, START);
            forge.put(START, 193 + 16 * p);
            forge.set(pushes[p], 0);
            forge.step();
            is("POP RQ[" + p + "]", forge, pushes[p], 0x1234, SP, 20002);
        }
    }

    private static void additions() {
        Check.holds(TERMS, "ADD, ADC of octets: S Z Y X of what comes, H a carry out of bit 3, P an overflow with sign, N 0, C a carry out");
        af("198 1", 0x0E00, 0x0F08);
        af("198 1", 0x0FFF, 0x1010);
        af("198 1", 0x7E00, 0x7F28);
        af("198 1", 0x7F00, 0x8094);
        af("198 1", 0xFE00, 0xFFA8);
        af("198 1", 0xFFFF, 0x0051);
        af("198 128", 0x7F00, 0xFFA8);
        af("198 128", 0x8000, 0x0045);
        af("198 255", 0x8000, 0x7F2D);
        af("198 255", 0x8100, 0x8091);
        af("198 0", 0x00FF, 0x0040);
        af("198 1", 0x0000, 0x0100);
        af("206 0", 0x7F00, 0x7F28);
        af("206 0", 0x7F01, 0x8094);
        af("206 0", 0xFF01, 0x0051);
        af("206 255", 0x0001, 0x0051);
        af("206 127", 0x0001, 0x8094);
        af("206 15", 0x0001, 0x1010);
        af("206 255", 0xFF01, 0xFFB9);
    }

    private static void subtractions() {
        Check.holds(TERMS, "SUB, SBC: likewise with borrows, N 1");
        af("214 1", 0x1100, 0x1002);
        af("214 1", 0x1000, 0x0F1A);
        af("214 1", 0x8100, 0x8082);
        af("214 1", 0x8000, 0x7F3E);
        af("214 1", 0x01FF, 0x0042);
        af("214 1", 0x0000, 0xFFBB);
        af("214 255", 0x7F00, 0x8087);
        af("214 255", 0x7E00, 0x7F3B);
        af("214 128", 0x0000, 0x8087);
        af("214 127", 0xFF00, 0x8082);
        af("214 1", 0x0200, 0x0102);
        af("214 128", 0x8000, 0x0042);
        af("214 129", 0x8000, 0xFFBB);
        af("222 0", 0x0100, 0x0102);
        af("222 0", 0x0101, 0x0042);
        af("222 0", 0x0001, 0xFFBB);
        af("222 0", 0x8001, 0x7F3E);
        af("222 255", 0x0001, 0x0053);
        af("222 15", 0x1001, 0x0052);
        Check.holds(TERMS, "CP (what comes is not kept; Y X are those of its operand)");
        af("254 40", 0x2800, 0x286A);
        af("254 0", 0x2800, 0x2802);
        af("254 40", 0x0000, 0x00BB);
        af("254 8", 0x3000, 0x301A);
        af("254 32", 0x3000, 0x3022);
        Check.holds(TERMS, "NEG: 0 - A");
        af("237 68", 0x00FF, 0x0042);
        af("237 68", 0x0100, 0xFFBB);
        af("237 68", 0x7F00, 0x8193);
        af("237 68", 0x8000, 0x8087);
        af("237 68", 0x8100, 0x7F3B);
        af("237 68", 0xF000, 0x1003);
    }

    private static void logic() {
        Check.holds(TERMS, "AND: H 1; OR, XOR: H 0; all: S Z Y X P (PARITY), N 0, C 0; PARITY is P 1 for an even number of 1s");
        af("230 0", 0xFFFF, 0x0054);
        af("230 1", 0xFFFF, 0x0110);
        af("230 3", 0xFFFF, 0x0314);
        af("230 128", 0xFFFF, 0x8090);
        af("230 40", 0xFFFF, 0x283C);
        af("230 255", 0xFFFF, 0xFFBC);
        af("246 0", 0x00FF, 0x0044);
        af("246 1", 0x00FF, 0x0100);
        af("246 3", 0x00FF, 0x0304);
        af("246 127", 0x80FF, 0xFFAC);
        af("238 255", 0xFFFF, 0x0044);
        af("238 255", 0xFE00, 0x0100);
        af("238 0", 0x80FF, 0x8080);
    }

    private static void counts() {
        Check.holds(TERMS, "INC: as ADD of 1, DEC as SUB of 1, C stays");
        for (int c = 0; c <= 1; c++) {
            af("60", 0x0E00 + c, 0x0F08 + c);
            af("60", 0x0F00 + c, 0x1010 + c);
            af("60", 0x7F00 + c, 0x8094 + c);
            af("60", 0xFF00 + c, 0x0050 + c);
            af("61", 0x1000 + c, 0x0F1A + c);
            af("61", 0x8000 + c, 0x7F3E + c);
            af("61", 0x0100 + c, 0x0042 + c);
            af("61", 0x0000 + c, 0xFFBA + c);
        }
        Check.holds(TERMS, "INC RP, DEC RP: Others none (no flags); modulo 65536");
        int[][] pairs = {{3, 11, BC}, {19, 27, DE}, {35, 43, HL}, {51, 59, SP}};
        for (int[] pair : pairs) {
            is("INC of 65535", did("" + pair[0], pair[2], 65535, AF, 0x00FF), pair[2], 0, AF, 0x00FF);
            is("INC of 255", did("" + pair[0], pair[2], 255, AF, 0), pair[2], 256, AF, 0);
            is("DEC of 0", did("" + pair[1], pair[2], 0, AF, 0), pair[2], 65535, AF, 0);
            is("DEC of 256", did("" + pair[1], pair[2], 256, AF, 0x00FF), pair[2], 255, AF, 0x00FF);
        }
        is("INC IX of 65535", did("221 35", IX, 65535), IX, 0, HL, 0);
        is("DEC IY of 0", did("253 43", IY, 0), IY, 65535, HL, 0);
    }

    private static void wide(String octets, int f, int hl, int bc, int due, int dueF) {
        is(octets + " of " + hl + " and " + bc, did(octets, AF, f, HL, hl, BC, bc), HL, due, AF, dueF, BC, bc);
    }

    private static void wideAdditions() {
        Check.holds(TERMS, "ADD HL: H a carry out of bit 11, C out of bit 15, N 0, Y X of the higher octet; S Z P stay");
        wide("9", 0x00FF, 0x0FFE, 1, 0x0FFF, 0x00CC);
        wide("9", 0x00FF, 0x0FFF, 1, 0x1000, 0x00D4);
        wide("9", 0x00FF, 0xFFFE, 1, 0xFFFF, 0x00EC);
        wide("9", 0x00FF, 0xFFFF, 1, 0x0000, 0x00D5);
        wide("9", 0x0000, 0xFFFF, 1, 0x0000, 0x0011);
        wide("9", 0x0000, 0x8000, 0x8000, 0x0000, 0x0001);
        wide("9", 0x0000, 0x00FF, 1, 0x0100, 0x0000);
        wide("9", 0x0000, 0x0000, 0, 0x0000, 0x0000);
        Check.holds(TERMS, "ADC HL: S Z (of all 16 bits), P overflow, H, C likewise, Y X of the higher octet");
        wide("237 74", 0x0000, 0x7FFE, 1, 0x7FFF, 0x0028);
        wide("237 74", 0x0001, 0x7FFE, 1, 0x8000, 0x0094);
        wide("237 74", 0x0001, 0xFFFF, 0, 0x0000, 0x0051);
        wide("237 74", 0x0001, 0x00FF, 0, 0x0100, 0x0000);
        wide("237 74", 0x0000, 0x0000, 0, 0x0000, 0x0040);
        wide("237 74", 0x0001, 0x0000, 0, 0x0001, 0x0000);
        wide("237 74", 0x0000, 0x8000, 0x8000, 0x0000, 0x0045);
        wide("237 74", 0x0000, 0x8000, 0xFFFF, 0x7FFF, 0x002D);
        wide("237 74", 0x0001, 0x8000, 0xFFFF, 0x8000, 0x0091);
        wide("237 74", 0x0001, 0x0FFF, 0, 0x1000, 0x0010);
        Check.holds(TERMS, "SBC HL: S Z (of all 16 bits), P overflow, H, C likewise (borrows, N 1 in SBC), Y X of the higher octet");
        wide("237 66", 0x0000, 0x8001, 1, 0x8000, 0x0082);
        wide("237 66", 0x0001, 0x8001, 1, 0x7FFF, 0x003E);
        wide("237 66", 0x0000, 0x0001, 1, 0x0000, 0x0042);
        wide("237 66", 0x0000, 0x0002, 1, 0x0001, 0x0002);
        wide("237 66", 0x0000, 0x8000, 0x8000, 0x0000, 0x0042);
        wide("237 66", 0x0001, 0x0001, 1, 0xFFFF, 0x00BB);
        wide("237 66", 0x0000, 0x0101, 1, 0x0100, 0x0002);
        wide("237 66", 0x0000, 0x1000, 1, 0x0FFF, 0x001A);
        wide("237 66", 0x0000, 0x7FFF, 0xFFFF, 0x8000, 0x0087);
        wide("237 66", 0x0001, 0x7FFF, 0xFFFF, 0x7FFF, 0x003B);
        is("SBC HL,HL with C", did("237 98", AF, 1, HL, 4660), HL, 65535, AF, 0x00BB);
        is("ADD IX,IX", did("221 41", IX, 0x8800, HL, 7), IX, 0x1000, HL, 7, AF, 0x0011);
        is("ADD IY,SP", did("253 57", IY, 1, SP, 65535), IY, 0, SP, 65535, AF, 0x0011);
    }

    private static void turns() {
        Check.holds(TERMS, "RLC, RRC turn the octet around; RL, RR through C; SLA SRA SRL move, SRA keeping bit 7; C is the bit that goes out");
        int[][] due = {
            // opcode of A, A and F before, A and F then
            {7, 0x80FF, 0x0101}, {7, 0x4001, 0x8080}, {7, 0x0001, 0x0044}, {7, 0xFF00, 0xFFAD},
            {15, 0x0100, 0x8081}, {15, 0x8001, 0x4000}, {15, 0x00FF, 0x0044},
            {23, 0x8000, 0x0045}, {23, 0x8001, 0x0101}, {23, 0x4001, 0x8184}, {23, 0x0000, 0x0044},
            {31, 0x0100, 0x0045}, {31, 0x0101, 0x8081}, {31, 0x8000, 0x4000}, {31, 0x0001, 0x8080},
            {39, 0x8001, 0x0045}, {39, 0x4001, 0x8080}, {39, 0xFF01, 0xFEA9},
            {47, 0x8001, 0xC084}, {47, 0x8101, 0xC085}, {47, 0x0101, 0x0045}, {47, 0x7F00, 0x3F2D},
            {63, 0x8001, 0x4000}, {63, 0x0100, 0x0045}, {63, 0xFF01, 0x7F29}};
        for (int[] row : due) {
            af("203 " + row[0], row[1], row[2]);
        }
        Check.holds(TERMS, "RLCA .. RRA: likewise A, but S Z P stay");
        af("7", 0x80FF, 0x01C5);
        af("7", 0x4000, 0x8000);
        af("7", 0x14FF, 0x28EC);
        af("15", 0x01FF, 0x80C5);
        af("15", 0x8000, 0x4000);
        af("23", 0x80FE, 0x00C5);
        af("23", 0x8001, 0x0101);
        af("23", 0x0000, 0x0000);
        af("31", 0x01FE, 0x00C5);
        af("31", 0x0001, 0x8000);
        af("31", 0x0101, 0x8001);
    }

    private static void bits() {
        Check.holds(TERMS, "BIT: Z and P whether the bit is 0, S if it is bit 7 and 1, H 1, N 0, Y X of the octet");
        af("203 127", 0x8000, 0x8090);
        af("203 127", 0x7F01, 0x7F7D);
        af("203 119", 0x8002, 0x8054);
        af("203 119", 0x40FF, 0x4011);
        af("203 71", 0x0100, 0x0110);
        af("203 71", 0xFEFF, 0xFE7D);
        af("203 111", 0x2000, 0x2030);
        af("203 95", 0x0801, 0x0819);
        OpcodeForge forge = ready("221 203 5 126", IX, 20000);
        forge.put(20005, 168);
        forge.step();
        is("BIT 7,(IX+5)", forge, AF, 0x00B8);
        Check.holds(TERMS, "RES, SET: none (no flags)");
        af("203 191", 0xFFFF, 0x7FFF);
        af("203 135", 0x0100, 0x0000);
        af("203 255", 0x00FF, 0x80FF);
        af("203 199", 0x0000, 0x0100);
    }

    private static void aAlone() {
        Check.holds(TERMS, "CPL: H N 1, Y X of A. SCF: C 1, H N 0, Y X of A. CCF: H is C, C is turned, N 0, Y X of A");
        af("47", 0x0000, 0xFF3A);
        af("47", 0xFFFF, 0x00D7);
        af("47", 0xD7C5, 0x28FF);
        af("55", 0x0000, 0x0001);
        af("55", 0x00FF, 0x00C5);
        af("55", 0x2800, 0x2829);
        af("63", 0x0000, 0x0001);
        af("63", 0x0001, 0x0010);
        af("63", 0x28FF, 0x28FC);
        af("63", 0x00FE, 0x00C5);
    }

    private static void decimal() {
        Check.holds(TERMS, "DAA: t is 6 if H, or A's lower half above 9; and 96 more if C, or A above 153; C is that (or was 1 before)");
        af("39", 0x0900, 0x090C);
        af("39", 0x0A00, 0x1010);
        af("39", 0x0010, 0x0604);
        af("39", 0x9900, 0x998C);
        af("39", 0x9A00, 0x0055);
        af("39", 0x0001, 0x6025);
        af("39", 0xA000, 0x0045);
        af("39", 0x9F00, 0x0515);
        af("39", 0x0011, 0x6625);
        Check.holds(TERMS, "A is A + t (N: A - t); H: with N whether it was 1 and the lower half below 6, else whether the lower half was above 9");
        af("39", 0x0F02, 0x090E);
        af("39", 0x0512, 0xFFBE);
        af("39", 0x0612, 0x0046);
        af("39", 0x0002, 0x0046);
        af("39", 0x0003, 0xA0A7);
        af("39", 0x9A02, 0x3423);
        af("39", 0x0013, 0x9A9F);
        af("39", 0x0610, 0x0C0C);
        af("39", 0x0910, 0x0F0C);
        af("39", 0x0A10, 0x1010);
    }

    private static void halves() {
        Check.holds(TERMS, "RLD: of the octet at HL the lower half goes up, the higher one to A's lower half, that to its lower one; RRD the other way round");
        int[][] due = {
            // opcode, AF, octet; AF, octet then
            {111, 0x12FF, 0x34, 0x1301, 0x42}, {111, 0x0F00, 0x00, 0x0044, 0x0F}, {111, 0x80FE, 0xF1, 0x8F88, 0x10},
            {103, 0x12FF, 0x34, 0x1405, 0x23}, {103, 0x0F00, 0x00, 0x0044, 0xF0}, {103, 0x80FE, 0x1F, 0x8F88, 0x01}};
        for (int[] row : due) {
            OpcodeForge forge = ready("237 " + row[0], AF, row[1], HL, 65535);
            forge.put(65535, row[2]);
            forge.step();
            is("237 " + row[0], forge, AF, row[3], HL, 65535);
            Check.same("octet of 237 " + row[0], forge.octet(65535), row[4]);
        }
    }

    private static void latches() {
        Check.holds(TERMS, "LD A,I  LD A,R: S Z Y X, P is L2, H N 0");
        for (int l = 0; l <= 1; l++) {
            int p = 4 * l;
            is("LD A,I of 0", did("237 87", I, 0, AF, 0xFFFF, L2, l, L1, 1 - l), AF, 0x0041 + p);
            is("LD A,I of 168", did("237 87", I, 168, AF, 0, L2, l, L1, 1 - l), AF, 0xA8A8 + p);
            is("LD A,R of 126 + 2", did("237 95", R, 126, AF, 0xFFFF, L2, l), AF, 0x0041 + p, R, 0);
            is("LD A,R of 255 + 2", did("237 95", R, 255, AF, 0, L2, l), AF, 0x8180 + p, R, 129);
        }
        Check.holds(TERMS, "Others none: LD I,A  LD R,A");
        is("LD I,A", did("237 71", AF, 0x00FF, I, 5), I, 0, AF, 0x00FF);
        is("LD R,A", did("237 79", AF, 0xFF00, R, 5), R, 255, AF, 0xFF00);
    }

    private static void inputs() {
        Check.holds(TERMS, "IN R,(C): S Z Y X P, H N 0");
        int[][] due = {{0, 0x00FF, 0x0045}, {1, 0x00FF, 0x0001}, {3, 0, 4}, {168, 0x00FE, 0x00A8}, {255, 0x0000, 0x00AC}};
        for (int[] row : due) {
            OpcodeForge forge = ready("237 80", AF, row[1], BC, 0x12FF);
            forge.port(255, row[0]);
            forge.step();
            is("IN D,(C) of " + row[0], forge, AF, row[2], DE, row[0] * 256, BC, 0x12FF);
        }
        Check.holds(TERMS, "IN A,(n): no flags");
        OpcodeForge forge = ready("219 255", AF, 0x12FF);
        forge.port(255, 0);
        forge.step();
        is("IN A,(255)", forge, AF, 0x00FF);
    }

    private static void moveBlocks() {
        Check.holds(TERMS, "LDI: (HL) to (DE), both 1 on, BC 1 less: P whether BC is not 0, H N 0; LDD: 1 back");
        for (int octet : new int[] {160, 168}) {
            int on = octet == 160 ? 1 : -1;
            for (int bc : new int[] {2, 1, 0}) {
                OpcodeForge forge = ready("237 " + octet, AF, 0x00FF, HL, 20000, DE, 30000, BC, bc);
                forge.step();
                is("237 " + octet + " BC " + bc, forge, HL, 20000 + on, DE, 30000 + on, BC, bc - 1 & 65535, AF, 0x00C1 + (bc == 1 ? 0 : 4));
            }
        }
        Check.holds(TERMS, "with s the octet and A added: X its bit 3, Y its bit 1");
        int[][] due = {{0, 0, 0}, {2, 0, 32}, {8, 0, 8}, {10, 0, 40}, {1, 1, 32}, {4, 4, 8}, {255, 3, 32}, {255, 1, 0}, {253, 252, 8}};
        for (int[] row : due) {
            OpcodeForge forge = ready("237 160", AF, row[1] * 256, HL, 20000, DE, 30000, BC, 1);
            forge.put(20000, row[0]);
            forge.step();
            is("LDI of " + row[0] + " with A " + row[1], forge, AF, row[1] * 256 + row[2]);
            Check.same("the octet", forge.octet(30000), row[0]);
        }
    }

    private static void compareBlocks() {
        Check.holds(TERMS, "CPI: A less (HL), HL 1 on, BC 1 less: S Z H as CP, N 1, P as in LDI; s: what came, less H: X bit 3, Y bit 1; C stays");
        int[][] due = {
            // A, octet, BC, F before, F then
            {5, 5, 1, 1, 0x43}, {5, 5, 2, 0, 0x46}, {5, 5, 0, 0, 0x46}, {0, 1, 1, 0, 0xBA}, {16, 1, 1, 0, 0x3A}, {128, 1, 2, 1, 0x3F},
            {2, 0, 1, 0, 0x22}, {8, 0, 1, 0, 0x0A}, {1, 0, 1, 255, 0x03}, {16, 15, 1, 0, 0x12}, {16, 8, 1, 0, 0x32}, {16, 14, 1, 0, 0x12},
            {16, 13, 1, 0, 0x32}, {16, 7, 1, 0, 0x1A}, {24, 9, 1, 0, 0x3A}};
        for (int octet : new int[] {161, 169}) {
            int on = octet == 161 ? 1 : -1;
            for (int[] row : due) {
                OpcodeForge forge = ready("237 " + octet, AF, row[0] * 256 + row[3], HL, 20000, BC, row[2]);
                forge.put(20000, row[1]);
                forge.step();
                is("237 " + octet + " of " + row[0] + ", " + row[1], forge, AF, row[0] * 256 + row[4], HL, 20000 + on, BC, row[2] - 1 & 65535);
            }
        }
    }

    private static void portBlocks() {
        Check.holds(TERMS, "INI: port C to (HL), HL 1 on, B 1 less: S Z Y X of B, N bit 7 of the octet; H and C whether k is above 255, P the PARITY of (k & 7) ^ B");
        int[][] in = {
            // opcode, octet, B, C; F then (k: octet and C + 1 or C - 1)
            {162, 0, 1, 9, 0x40}, {162, 127, 1, 127, 0x40}, {162, 128, 1, 126, 0x42}, {162, 128, 1, 127, 0x57}, {162, 255, 1, 255, 0x42},
            {162, 0, 0, 254, 0xA8}, {162, 0, 0, 255, 0xAC}, {162, 0, 129, 255, 0x80}, {162, 1, 129, 255, 0x84}, {162, 0, 41, 255, 0x2C},
            {170, 0, 1, 0, 0x40}, {170, 0, 1, 1, 0x44}, {170, 1, 1, 0, 0x55}, {170, 1, 1, 255, 0x40}, {170, 128, 1, 128, 0x42},
            {170, 128, 1, 129, 0x57}};
        for (int[] row : in) {
            OpcodeForge forge = ready("237 " + row[0], AF, 0x1200, HL, 20000, BC, row[2] * 256 + row[3]);
            forge.port(row[3], row[1]);
            Check.same("step", forge.step(), 1);
            String what = "237 " + row[0] + " of " + row[1] + ", B " + row[2] + ", C " + row[3];
            is(what, forge, AF, 0x1200 + row[4], HL, row[0] == 162 ? 20001 : 19999, BC, (row[2] - 1 & 255) * 256 + row[3]);
            Check.same(what + ", octet", forge.octet(20000), row[1]);
        }
        Check.holds(TERMS, "OUTI: (HL) to port C, B 1 less first, HL 1 on: likewise with L (as it is then) for C + 1, also in OUTD");
        int[][] out = {
            // opcode, octet, B, L; F then (k: octet and L + 1 or L - 1)
            {163, 0, 1, 9, 0x40}, {163, 128, 1, 126, 0x42}, {163, 128, 1, 127, 0x57}, {163, 255, 1, 255, 0x42}, {163, 0, 1, 255, 0x44},
            {171, 0, 1, 0, 0x40}, {171, 1, 1, 0, 0x55}, {171, 1, 1, 1, 0x40}, {171, 0, 0, 1, 0xAC}, {171, 128, 2, 129, 0x13}};
        for (int[] row : out) {
            OpcodeForge forge = ready("237 " + row[0], AF, 0x1200, HL, 20224 + row[3], BC, row[2] * 256 + 7);
            forge.put(20224 + row[3], row[1]);
            Check.same("step", forge.step(), 1);
            String what = "237 " + row[0] + " of " + row[1] + ", B " + row[2] + ", L " + row[3];
            is(what, forge, AF, 0x1200 + row[4], HL, 20224 + row[3] + (row[0] == 163 ? 1 : -1), BC, (row[2] - 1 & 255) * 256 + 7);
            Check.same(what + ", port", forge.out(7), row[1]);
            Check.same(what + ", outs", forge.outs(), 1);
        }
    }

    private static void repeats() {
        Check.holds(TERMS, ".. IR, .. DR: then, if P, PC stands at the instruction again");
        for (int octet : new int[] {176, 184}) {
            is("BC 2", did("237 " + octet, BC, 2, HL, 20000, DE, 30000), PC, START, BC, 1);
            is("BC 1", did("237 " + octet, BC, 1, HL, 20000, DE, 30000), PC, START + 2, BC, 0);
            is("BC 0", did("237 " + octet, BC, 0, HL, 20000, DE, 30000), PC, START, BC, 65535);
        }
        Check.holds(TERMS, "(of CPIR, CPDR also not Z)");
        for (int octet : new int[] {177, 185}) {
            is("BC 2, not found", did("237 " + octet, AF, 0x0500, BC, 2, HL, 20000), PC, START, BC, 1);
            is("BC 2, found", did("237 " + octet, AF, 0, BC, 2, HL, 20000), PC, START + 2, BC, 1);
            is("BC 1, not found", did("237 " + octet, AF, 0x0500, BC, 1, HL, 20000), PC, START + 2, BC, 0);
            is("BC 1, found", did("237 " + octet, AF, 0, BC, 1, HL, 20000), PC, START + 2, BC, 0);
            is("BC 0, not found", did("237 " + octet, AF, 0x0500, BC, 0, HL, 20000), PC, START, BC, 65535);
        }
        Check.holds(TERMS, "(in place of P of INIR, INDR, OTIR, OTDR: B is not 0)");
        for (int octet : new int[] {178, 179, 186, 187}) {
            is("B 2", did("237 " + octet, BC, 0x0205, HL, 20000), PC, START, BC, 0x0105);
            is("B 1", did("237 " + octet, BC, 0x0105, HL, 20000), PC, START + 2, BC, 0x0005);
            is("B 0", did("237 " + octet, BC, 0x0005, HL, 20000), PC, START, BC, 0xFF05);
        }
        Check.holds(TERMS, "LDI .. OUTD do so once");
        for (int octet : new int[] {160, 161, 162, 163, 168, 169, 170, 171}) {
            is("once", did("237 " + octet, AF, 0x0500, BC, 0x0205, HL, 20000, DE, 30000), PC, START + 2);
        }
        OpcodeForge forge = ready("237 176 118", BC, 300, HL, 65500, DE, 65400);
        Check.same("LDIR in steps, and the HALT", forge.run(20000), 301);
        is("LDIR over the end", forge, HL, 264, DE, 164, BC, 0);
        forge = ready("237 177 118", AF, 0x0900, BC, 0, HL, 20000);
        forge.put(20004, 9);
        Check.same("CPIR up to what it seeks, and the HALT", forge.run(20000), 6);
        is("CPIR", forge, HL, 20005, BC, 65531);
    }

    private static void jumps() {
        Check.holds(TERMS, "DJNZ: B 1 less; jumps if B is not 0");
        is("B 2", did("16 5", BC, 0x02FF), BC, 0x01FF, PC, START + 7);
        is("B 1", did("16 5", BC, 0x01FF), BC, 0x00FF, PC, START + 2);
        is("B 0", did("16 5", BC, 0x00FF), BC, 0xFFFF, PC, START + 7);
        Check.holds(TERMS, "CC: by the flags Z, C, P (PO: 0), S (P: 0)");
        int[] flag = {0x40, 0x01, 0x04, 0x80};
        for (int y = 0; y < 8; y++) {
            for (int f : new int[] {0, 255, flag[y / 2], 255 - flag[y / 2]}) {
                boolean jumps = (f & flag[y / 2]) != 0 == (y % 2 == 1);
                String what = "CC " + y + ", F " + f;
                is(what, did((194 + 8 * y) + " 52 18", AF, f), PC, jumps ? 0x1234 : START + 3, SP, 65535, AF, f);
                is(what, did((196 + 8 * y) + " 52 18", AF, f), PC, jumps ? 0x1234 : START + 3, SP, jumps ? 65533 : 65535, AF, f);
                is(what, did((192 + 8 * y) + "", AF, f, SP, 20000), PC, jumps ? 0 : START + 1, SP, jumps ? 20002 : 20000, AF, f);
                if (y < 4) {
                    is(what, did((32 + 8 * y) + " 128", AF, f), PC, jumps ? START + 2 - 128 : START + 2, AF, f);
                }
            }
        }
        Check.holds(TERMS, "JP (HL) goes to HL itself");
        is("JP (HL)", did("233", HL, 65535), PC, 65535);
        is("JP (IX)", did("221 233", IX, 0x1234, HL, 5), PC, 0x1234);
        is("JP (IY)", did("253 233", IY, 0x1234, HL, 5), PC, 0x1234);
        Check.holds(TERMS, "CALL, RST push what stands behind");
        for (int y = 0; y < 8; y++) {
            OpcodeForge forge = did("" + (199 + 8 * y), SP, 20002);
            is("RST " + 8 * y, forge, PC, 8 * y, SP, 20000);
            Check.same("pushed", forge.octet(20000) + 256 * forge.octet(20001), START + 1);
        }
    }

    private static void pushed(String what, OpcodeForge forge, int address, int due) {
        Check.same(what + ", the lower octet", forge.octet(address), due & 255);
        Check.same(what + ", the higher octet", forge.octet(address + 1 & 65535), due >> 8);
    }

    private static void stack() {
        Check.holds(TERMS, "PUSH: SP two less, the lower octet lower; addresses, SP modulo 65536");
        for (int sp : new int[] {2, 1, 0, 65535, 3}) {
            int then = sp - 2 & 65535;
            OpcodeForge forge = did("229", HL, 0x1234, SP, sp);
            is("PUSH HL, SP " + sp, forge, SP, then);
            pushed("PUSH HL, SP " + sp, forge, then, 0x1234);
            forge = did("205 120 86", SP, sp);
            is("CALL, SP " + sp, forge, SP, then, PC, 0x5678);
            pushed("CALL, SP " + sp, forge, then, START + 3);
        }
        Check.holds(TERMS, "POP, RET: SP two on, modulo 65536");
        for (int sp : new int[] {65533, 65534, 65535, 0}) {
            for (String octets : new String[] {"225", "201", "237 69", "237 77", "221 225"}) {
                OpcodeForge forge = ready(octets, SP, sp);
                forge.put(sp, 0x34);
                forge.put(sp + 1 & 65535, 0x12);
                Check.same("step of " + octets, forge.step(), 1);
                int r = octets.equals("225") ? HL : octets.equals("221 225") ? IX : PC;
                is(octets + ", SP " + sp, forge, SP, sp + 2 & 65535, r, 0x1234);
            }
        }
        OpcodeForge forge = ready("241", SP, 20000, AF, 0);
        forge.put(20000, 255);
        forge.put(20001, 1);
        forge.step();
        is("POP AF takes all of F", forge, AF, 0x01FF);
        Check.holds(TERMS, "RETN, RETI: RET, and L1 is L2");
        for (int l = 0; l <= 1; l++) {
            is("RETN", did("237 69", L1, 1 - l, L2, l, SP, 20000), L1, l, L2, l, PC, 0, SP, 20002);
            is("RETI", did("237 77", L1, 1 - l, L2, l, SP, 20000), L1, l, L2, l, PC, 0, SP, 20002);
        }
    }

    private static void round() {
        Check.holds(TERMS, "Addresses, SP, HL are modulo 65536");
        OpcodeForge forge = did("34 255 255", HL, 0x1234);
        pushed("LD (65535),HL", forge, 65535, 0x1234);
        forge = did("237 67 255 255", BC, 0x1234);
        pushed("LD (65535),BC", forge, 65535, 0x1234);
        forge = did("237 123 255 255");
        is("LD SP,(65535)", forge, SP, 0);
        forge = ready("42 255 255");
        forge.put(65535, 0x78);
        forge.put(0, 0x56);
        forge.step();
        is("LD HL,(65535)", forge, HL, 0x5678);
        int[][] near = {{65535, 1, 0}, {65535, 0, 65535}, {65408, 127, 65535}, {65409, 127, 0}, {0, 255, 65535}, {0, 128, 65408}, {128, 128, 0},
            {127, 128, 65535}};
        for (int[] row : near) {
            for (int lead = 221; lead <= 253; lead += 32) {
                forge = did(lead + " 54 " + row[1] + " 77", lead == 221 ? IX : IY, row[0]);
                Check.same("LD (I+d),77 of " + row[0] + ", " + row[1], forge.octet(row[2]), 77);
                forge = did(lead + " 203 " + row[1] + " 254", lead == 221 ? IX : IY, row[0]);
                Check.same("SET 7,(I+d) of " + row[0] + ", " + row[1], forge.octet(row[2]), 128);
                is("the register stays", forge, lead == 221 ? IX : IY, row[0]);
            }
        }
        is("LDI at 65535", did("237 160", HL, 65535, DE, 65535, BC, 5), HL, 0, DE, 0);
        is("LDD at 0", did("237 168", HL, 0, DE, 0, BC, 5), HL, 65535, DE, 65535);
        is("CPI at 65535", did("237 161", HL, 65535, BC, 5), HL, 0);
        is("CPD at 0", did("237 169", HL, 0, BC, 5), HL, 65535);
        is("INI at 65535", did("237 162", HL, 65535, BC, 0x0505), HL, 0);
        is("OUTD at 0", did("237 171", HL, 0, BC, 0x0505), HL, 65535);
        is("NOP at 65535", did("0", PC, 65535), PC, 0);
        is("LD A,n at 65535", did("62 9", PC, 65535), PC, 1, AF, 0x0900);
        is("LD A,n at 65534", did("62 9", PC, 65534), PC, 0, AF, 0x0900);
        is("LD IX,m at 65534", did("221 33 2 1", PC, 65534), PC, 2, IX, 258);
        is("LD (IX+5),n at 65533", did("221 54 5 6", PC, 65533), PC, 1);
        is("JR over the end", did("24 1", PC, 65534), PC, 1);
        is("JR to 65535", did("24 253", PC, 0), PC, 65535);
        is("JR back over 0", did("24 128", PC, 0), PC, 65410);
        is("DJNZ over the end", did("16 127", PC, 65530, BC, 0x0200), PC, 123);
        forge = did("205 2 1", PC, 65533, SP, 20002);
        is("CALL at 65533", forge, PC, 258);
        pushed("CALL at 65533", forge, 20000, 0);
        forge = did("255", PC, 65535, SP, 20002);
        is("RST at 65535", forge, PC, 56);
        pushed("RST at 65535", forge, 20000, 0);
    }

    private static void exchanges() {
        Check.holds(TERMS, "EX, EXX exchange; EXX B .. L with the others");
        int[] all = {AF, 1, BC, 2, DE, 3, HL, 4, 4, 5, 5, 6, 6, 7, 7, 8, IX, 9, IY, 10};
        is("EXX", did("217", all), AF, 1, BC, 6, DE, 7, HL, 8, 4, 5, 5, 2, 6, 3, 7, 4, IX, 9, IY, 10);
        is("EX AF,AF'", did("8", all), AF, 5, BC, 2, DE, 3, HL, 4, 4, 1, 5, 6, 6, 7, 7, 8);
        is("EX DE,HL", did("235", all), AF, 1, BC, 2, DE, 4, HL, 3, 5, 6, 6, 7, 7, 8);
        Check.holds(TERMS, "EX (SP),HL with the two octets there");
        for (int sp : new int[] {20000, 65534, 65535}) {
            for (int lead = 221; lead <= 253; lead += 16) {
                int r = lead == 221 ? IX : lead == 253 ? IY : HL;
                OpcodeForge forge = ready(r == HL ? "227" : lead + " 227", SP, sp, r, 0x1234);
                forge.put(sp, 0x78);
                forge.put(sp + 1 & 65535, 0x56);
                Check.same("step", forge.step(), 1);
                is("EX (SP)", forge, SP, sp, r, 0x5678, HL, r == HL ? 0x5678 : 0);
                pushed("EX (SP)", forge, sp, 0x1234);
            }
        }
    }

    private static void ports() {
        Check.holds(TERMS, "a port's number is the lowest octet of what stands on the lines (C of (C), n of (n))");
        for (int p : new int[] {0, 1, 127, 128, 255}) {
            OpcodeForge forge = did("237 121", AF, 0x5A00, BC, 0xFF00 + p);
            Check.same("OUT (C),A to " + p, forge.out(p), 0x5A);
            Check.same("none else", forge.out(p ^ 255), 0);
            forge = did("211 " + p, AF, 0xA500);
            Check.same("OUT (n),A to " + p, forge.out(p), 0xA5);
            Check.same("none else", forge.out(p ^ 255), 0);
            forge = ready("219 " + p, AF, 0xFF00, BC, 0x1234);
            forge.port(p, 0x77);
            forge.step();
            is("IN A,(n) from " + p, forge, AF, 0x7700);
            forge = ready("237 120", AF, 0, BC, 0xFF00 + p);
            forge.port(p, 0x77);
            forge.step();
            is("IN A,(C) from " + p, forge, AF, 0x7724);
            Check.same("IN puts nothing", forge.outs(), 0);
        }
        Check.holds(TERMS, "PORTS: 256 octets for IN, 256 for OUT");
        OpcodeForge forge = ready("211 7 219 7", AF, 0x5A00);
        forge.port(7, 1);
        forge.run(2);
        is("what goes out does not come in", forge, AF, 0x0100);
        Check.same("what comes in does not go out", forge.out(7), 0x5A);
    }

    private static void refresh() {
        Check.holds(TERMS, "R: its lower seven bits go on by 1 before each instruction, by 2 before one with 203, 237, 221, 253");
        int[][] one = {{0, 1}, {126, 127}, {127, 0}, {128, 129}, {254, 255}, {255, 128}};
        int[][] two = {{0, 2}, {125, 127}, {126, 0}, {127, 1}, {128, 130}, {253, 255}, {254, 128}, {255, 129}};
        for (int[] row : one) {
            for (String octets : new String[] {"0", "62 9", "33 9 9", "235", "198 203"}) {
                is(octets + ", R " + row[0], did(octets, R, row[0]), R, row[1]);
            }
            OpcodeForge forge = ready("118", R, row[0]);
            Check.same("HALT", forge.step(), 3);
            is("HALT, R " + row[0], forge, R, row[1]);
        }
        for (int[] row : two) {
            for (String octets : new String[] {"203 0", "237 68", "221 35", "253 35", "221 54 5 6", "221 203 5 6", "253 203 5 6", "237 160"}) {
                is(octets + ", R " + row[0], did(octets, R, row[0], HL, 20000, DE, 30000, IX, 20000, IY, 30000), R, row[1]);
            }
        }
        is("each time of LDIR", did("237 176", R, 5, BC, 2, HL, 20000, DE, 30000), R, 7, PC, START);
        is("LD A,R has it gone on", did("237 95", R, 127), AF, 0x0100, R, 1);
        is("LD R,A sets all of it", did("237 79", R, 127, AF, 0x8500), R, 0x85);
    }

    private static void halt() {
        Check.holds(TERMS, "HALT: PC stays at it; each step does it again");
        OpcodeForge forge = ready("118", PC, 65535);
        for (int i = 1; i <= 3; i++) {
            Check.same("HALT", forge.step(), 3);
            is("HALT", forge, PC, 65535, R, i, SP, 65535, AF, 0);
        }
        Check.holds(TERMS, "(A request that is taken where HALT stands at PC puts PC behind it first.)");
        for (int kind = 0; kind <= 1; kind++) {
            for (int steps = 0; steps <= 1; steps++) {
                for (int octet : new int[] {118, 117}) {
                    forge = ready(octet + " 118", PC, 65535, L1, 1, SP, 20002, HL, 30000);
                    if (steps == 1 && octet == 118) {
                        forge.step();
                    }
                    forge.request(kind, 0);
                    Check.same("taken", forge.step(), 2);
                    pushed("kind " + kind + " at " + octet, forge, 20000, octet == 118 ? 0 : 65535);
                    for (int pc : new int[] {0, START, START + 1}) {
                        forge = ready("" + octet, PC, pc, L1, 1, SP, 20002);
                        forge.request(kind, 0);
                        Check.same("taken", forge.step(), 2);
                        pushed("kind " + kind + " at " + octet + ", PC " + pc, forge, 20000, octet == 118 ? pc + 1 : pc);
                    }
                }
            }
        }
    }

    private static void enabling() {
        Check.holds(TERMS, "DI: both L 0. EI: both 1");
        for (int l = 0; l <= 1; l++) {
            is("DI", did("243", L1, l, L2, 1 - l), L1, 0, L2, 0);
            is("EI", did("251", L1, l, L2, 1 - l), L1, 1, L2, 1);
        }
        Check.holds(TERMS, "no PLAIN request is taken before the next instruction has been done");
        OpcodeForge forge = ready("251 0 0");
        forge.request(0, 0);
        Check.same("EI", forge.step(), 1);
        Check.same("the next one", forge.step(), 1);
        Check.same("the request then", forge.step(), 2);
        forge = ready("251 251 251 0");
        forge.request(0, 0);
        for (int i = 0; i < 4; i++) {
            Check.same("EI again, " + i, forge.step(), 1);
        }
        Check.same("the request then", forge.step(), 2);
        forge = ready("251 118");
        forge.request(0, 0);
        Check.same("EI", forge.step(), 1);
        Check.same("HALT is an instruction", forge.step(), 3);
        Check.same("the request then", forge.step(), 2);
        forge = ready("251 243 0");
        forge.request(0, 0);
        Check.same("EI, DI, NOP", forge.run(3), 3);
        Check.same("DI holds it back", forge.request(0, 0), 0);
        forge = ready("251 0");
        forge.step();
        Check.same("a request that came behind the EI", forge.request(0, 0), 1);
        Check.same("waits for one instruction", forge.step(), 1);
        Check.same("and is taken then", forge.step(), 2);
        Check.holds(TERMS, "the latest step that was not STUCK did no EI");
        forge = ready("251 237 0");
        forge.request(0, 0);
        Check.same("EI", forge.step(), 1);
        Check.same("STUCK", forge.step(), 0);
        Check.same("STUCK", forge.step(), 0);
        forge.set(PC, 20000);
        Check.same("the instruction behind the EI", forge.step(), 1);
        Check.same("the request then", forge.step(), 2);
        forge = ready("0 237 0", L1, 1);
        forge.step();
        Check.same("STUCK", forge.step(), 0);
        forge.request(0, 0);
        Check.same("STUCK is no EI", forge.step(), 2);
        Check.holds(TERMS, "(one that took a REQUEST did none)");
        forge = ready("251");
        forge.step();
        forge.request(1, 0);
        forge.request(0, 0);
        Check.same("HARD", forge.step(), 2);
        forge.set(L1, 1);
        Check.same("PLAIN", forge.step(), 2);
        Check.holds(TERMS, "IM n: MODE n");
        for (int mode = 0; mode <= 2; mode++) {
            is("IM 0", did("237 70", MODE, mode), MODE, 0);
            is("IM 1", did("237 86", MODE, mode), MODE, 1);
            is("IM 2", did("237 94", MODE, mode), MODE, 2);
        }
    }

    private static void hard() {
        Check.holds(TERMS, "HARD, if it waits: L1 0, PC is pushed, PC 102");
        for (int l = 0; l <= 3; l++) {
            OpcodeForge forge = ready("62 9", L1, l % 2, L2, l / 2, SP, 1, R, 127, MODE, 2);
            forge.request(1, 255);
            Check.same("taken", forge.step(), 2);
            is("HARD", forge, L1, 0, L2, l / 2, SP, 65535, PC, 102, MODE, 2, AF, 0);
            pushed("HARD", forge, 65535, START);
            Check.holds(TERMS, "The step is that alone; the request waits no more; R goes on by 1");
            is("R", forge, R, 0);
            Check.same("an instruction then", forge.step(), 1);
            is("at 102", forge, PC, 103, R, 1);
            Check.same("it waits no more", forge.request(1, 0), 1);
        }
        Check.holds(TERMS, "At a step: HARD, if it waits ... Else PLAIN");
        OpcodeForge forge = ready("0", L1, 1, L2, 1);
        forge.request(0, 8);
        forge.request(1, 0);
        Check.same("the first step", forge.step(), 2);
        is("HARD first", forge, PC, 102, L1, 0, L2, 1);
        Check.same("PLAIN waits: L1 is 0", forge.step(), 1);
        forge.set(L1, 1);
        Check.same("PLAIN then", forge.step(), 2);
        is("PLAIN then", forge, PC, 8, L1, 0, L2, 0);
        forge = ready("251 0");
        forge.step();
        forge.request(1, 0);
        Check.same("HARD right behind an EI", forge.step(), 2);
    }

    private static void plain() {
        Check.holds(TERMS, "Else PLAIN, if L1 is 1");
        for (int l2 = 0; l2 <= 1; l2++) {
            OpcodeForge forge = ready("0 0", L1, 0, L2, l2);
            forge.request(0, 8);
            Check.same("L1 0", forge.step(), 1);
            forge.set(L1, 1);
            Check.same("L1 1", forge.step(), 2);
            is("both L 0", forge, L1, 0, L2, 0, PC, 8, R, 2);
        }
        Check.holds(TERMS, "MODE 0: RST of v & 56");
        int[][] due = {{0, 0}, {7, 0}, {8, 8}, {15, 8}, {55, 48}, {56, 56}, {63, 56}, {64, 0}, {192, 0}, {199, 0}, {207, 8}, {255, 56}};
        for (int[] row : due) {
            OpcodeForge forge = ready("0", L1, 1, SP, 0, I, 9);
            forge.request(0, row[0]);
            Check.same("taken", forge.step(), 2);
            is("v " + row[0], forge, PC, row[1], SP, 65534, MODE, 0);
            pushed("v " + row[0], forge, 65534, START);
        }
        Check.holds(TERMS, "1: RST 56");
        for (int v : new int[] {0, 8, 255}) {
            OpcodeForge forge = ready("0", L1, 1, MODE, 1, SP, 1, I, 9);
            forge.request(0, v);
            Check.same("taken", forge.step(), 2);
            is("v " + v, forge, PC, 56, SP, 65535, MODE, 1);
            pushed("v " + v, forge, 65535, START);
        }
        Check.holds(TERMS, "2: PC is pushed, PC what stands at 256 I + v");
        for (int i : new int[] {0, 1, 255}) {
            for (int v : new int[] {0, 1, 254, 255}) {
                OpcodeForge forge = ready("0", L1, 1, MODE, 2, SP, 20002, I, i);
                forge.put(256 * i + v, 0x34);
                forge.put(256 * i + v + 1 & 65535, 0x12);
                forge.request(0, v);
                Check.same("taken", forge.step(), 2);
                is("I " + i + ", v " + v, forge, PC, 0x1234, SP, 20000, MODE, 2, L1, 0, L2, 0, I, i);
                pushed("I " + i + ", v " + v, forge, 20000, START);
            }
        }
        OpcodeForge forge = ready("0", L1, 1, MODE, 2, SP, 0x0902, I, 9);
        forge.request(0, 0);
        forge.step();
        is("PC is pushed, and read there", forge, PC, START);
    }

    private static void stuck() {
        Check.holds(TERMS, "A step at what is no instruction is STUCK: nothing is done");
        for (String octets : new String[] {"203 48", "221 0", "237 0", "253 221", "221 203 0 0", "237 112", "221 118"}) {
            OpcodeForge forge = ready(octets, AF, 1, BC, 2, DE, 3, HL, 4, 4, 5, 5, 6, 6, 7, 7, 8, IX, 9, IY, 10, SP, 11, I, 12, R, 127, L1, 1, L2, 1,
                MODE, 2);
            for (int i = 0; i < 2; i++) {
                Check.same("STUCK at " + octets, forge.step(), 0);
                is("STUCK at " + octets, forge, AF, 1, BC, 2, DE, 3, HL, 4, 4, 5, 5, 6, 6, 7, 7, 8, IX, 9, IY, 10, SP, 11, PC, START, I, 12, R, 127,
                    L1, 1, L2, 1, MODE, 2);
            }
            Check.same("no OUT", forge.outs(), 0);
            Check.same("MEMORY stays", Check.octetsAt(forge, START, Check.numbers(octets).size()), octets);
            forge.request(0, 5);
            Check.same("a REQUEST is taken there", forge.step(), 2);
            pushed("PC is pushed as it is", forge, 9, START);
        }
    }
}
