/** Promises 17 to 19 (request, step, run), with answers counted by hand. */
public final class RequestTest {
    public static void main(String[] args) {
        answers();
        hard();
        plain();
        behindEi();
        atHalt();
        stuck();
        run();
        byHand();
        Check.end("RequestTest");
    }

    private static void answers() {
        OpcodeForge forge = new OpcodeForge();
        Check.same("request(0, 255)", forge.request(0, 255), 1);
        Check.same("request(0, 16) again", forge.request(0, 16), 0);
        Check.same("request(1, 0)", forge.request(1, 0), 1);
        Check.same("request(1, 255) again", forge.request(1, 255), 0);
        for (int kind : new int[] {-1, 2, Integer.MAX_VALUE, Integer.MIN_VALUE}) {
            Check.same("request(" + kind + ", 0)", forge.request(kind, 0), -2);
        }
        for (int v : new int[] {-1, 256, Integer.MAX_VALUE, Integer.MIN_VALUE}) {
            Check.same("request(0, " + v + ")", forge.request(0, v), -2);
            Check.same("request(1, " + v + ")", forge.request(1, v), -2);
        }
        forge.set(14, 1);
        Check.same("HARD first", forge.step(), 2);
        Check.same("at 102", forge.register(11), 102);
        Check.same("L1 0: PLAIN waits", forge.step(), 1);
        Check.same("it waits still", forge.request(0, 24), 0);
        forge.set(14, 1);
        Check.same("PLAIN then", forge.step(), 2);
        Check.same("the newer v", forge.register(11), 24);
        Check.same("none waits", forge.request(0, 1) + forge.request(1, 1), 2);
    }

    private static void hard() {
        OpcodeForge forge = new OpcodeForge();
        int[] start = {1, 2, 3, 4, 5, 6, 7, 8, 9, 10, 1, 0x1234, 11, 255, 1, 1, 2};
        for (int r = 0; r < 17; r++) {
            forge.set(r, start[r]);
        }
        forge.request(1, 7);
        Check.same("HARD", forge.step(), 2);
        int[] due = {1, 2, 3, 4, 5, 6, 7, 8, 9, 10, 65535, 102, 11, 128, 0, 1, 2};
        for (int r = 0; r < 17; r++) {
            Check.same("HARD, register " + r, forge.register(r), due[r]);
        }
        Check.same("pushed", forge.octet(65535) + 256 * forge.octet(0), 0x1234);
        forge.put(102, 237);
        forge.put(103, 69);
        Check.same("RETN", forge.step(), 1);
        Check.same("back", forge.register(11), 0x1234);
        Check.same("L1 is L2", forge.register(14), 1);
        Check.same("SP", forge.register(10), 1);
    }

    private static void plain() {
        for (int mode = 0; mode <= 2; mode++) {
            OpcodeForge forge = new OpcodeForge();
            forge.set(16, mode);
            forge.set(12, 255);
            forge.set(11, 500);
            forge.put(65535, 0x21);
            forge.put(0, 0x43);
            forge.set(10, 4000);
            forge.request(0, 255);
            Check.same("L1 is 0", forge.step(), 1);
            forge.set(14, 1);
            forge.set(15, 1);
            Check.same("PLAIN, mode " + mode, forge.step(), 2);
            Check.same("PC, mode " + mode, forge.register(11), mode == 2 ? 0x4321 : 56);
            Check.same("pushed, mode " + mode, forge.octet(3998) + 256 * forge.octet(3999), 501);
            Check.same("L1, mode " + mode, forge.register(14), 0);
            Check.same("L2, mode " + mode, forge.register(15), 0);
            Check.same("R, mode " + mode, forge.register(13), 2);
            Check.same("MODE, mode " + mode, forge.register(16), mode);
            Check.same("it waits no more, mode " + mode, forge.request(0, 3), 1);
        }
        for (int v = 0; v < 256; v += 5) {
            OpcodeForge forge = new OpcodeForge();
            forge.set(14, 1);
            forge.request(0, v);
            forge.step();
            Check.same("RST of " + v, forge.register(11), v / 8 % 8 * 8);
        }
    }

    /** EI EI NOP: the PLAIN request is taken behind the NOP; a HARD one at once. */
    private static void behindEi() {
        OpcodeForge forge = new OpcodeForge();
        Check.putAll(forge, 0, 251, 251, 0, 0);
        forge.request(0, 8);
        int[] due = {1, 1, 1, 2};
        for (int i = 0; i < 4; i++) {
            Check.same("EI EI NOP, step " + i, forge.step(), due[i]);
        }
        Check.same("pushed PC", forge.octet(65533), 3);
        forge = new OpcodeForge();
        Check.putAll(forge, 0, 251, 0);
        forge.step();
        forge.request(0, 8);
        forge.request(1, 8);
        Check.same("HARD right behind EI", forge.step(), 2);
        Check.same("at 102", forge.register(11), 102);
        forge.set(14, 1);
        Check.same("a REQUEST is no EI", forge.step(), 2);
        forge = new OpcodeForge();
        Check.putAll(forge, 0, 251, 237, 0, 118);
        forge.request(0, 8);
        Check.same("EI", forge.step(), 1);
        Check.same("STUCK behind EI", forge.step(), 0);
        Check.same("STUCK again", forge.step(), 0);
        forge.set(11, 3);
        Check.same("the step before it was the EI", forge.step(), 3);
        Check.same("HALT was no EI", forge.step(), 2);
        Check.same("behind HALT", forge.octet(65533), 4);
        forge = new OpcodeForge();
        Check.putAll(forge, 0, 251, 243, 0);
        forge.request(0, 8);
        forge.step();
        forge.step();
        Check.same("DI behind EI", forge.step(), 1);
    }

    private static void atHalt() {
        for (int kind = 0; kind <= 1; kind++) {
            OpcodeForge forge = new OpcodeForge();
            forge.put(65535, 118);
            forge.set(11, 65535);
            forge.set(14, 1);
            forge.set(10, 100);
            Check.same("HALT", forge.step(), 3);
            Check.same("PC stays", forge.register(11), 65535);
            Check.same("HALT again", forge.step(), 3);
            Check.same("R goes on", forge.register(13), 2);
            forge.request(kind, 0);
            Check.same("taken", forge.step(), 2);
            Check.same("PC behind the HALT was pushed", forge.octet(98) + 256 * forge.octet(99), 0);
        }
        OpcodeForge forge = new OpcodeForge();
        Check.putAll(forge, 7, 118);
        forge.set(11, 7);
        forge.request(1, 0);
        Check.same("taken ahead of the HALT", forge.step(), 2);
        Check.same("PC behind it was pushed", forge.octet(65533), 8);
    }

    private static void stuck() {
        int[][] none = {{237, 0}, {237, 70 + 8}, {221, 0}, {253, 118}, {221, 203, 0, 0}, {203, 48}, {221, 221}, {237, 237}, {221, 237},
            {253, 235}, {237, 99}, {237, 107}, {237, 112}, {237, 113}, {221, 96}, {237, 164}, {237, 191}};
        for (int[] octets : none) {
            OpcodeForge forge = new OpcodeForge();
            Check.putAll(forge, 0, octets);
            Check.same("STUCK at " + octets[0] + " " + octets[1], forge.step(), 0);
            for (int r = 0; r < 17; r++) {
                Check.same("STUCK, register " + r, forge.register(r), r == 10 ? 65535 : 0);
            }
            Check.same("run", forge.run(5), 1);
            forge.request(1, 0);
            Check.same("a REQUEST is taken there", forge.step(), 2);
        }
    }

    private static void run() {
        OpcodeForge forge = new OpcodeForge();
        for (int n : new int[] {-1, 20001, Integer.MAX_VALUE, Integer.MIN_VALUE}) {
            Check.same("run(" + n + ")", forge.run(n), -2);
        }
        Check.same("run(0)", forge.run(0), 0);
        Check.same("nothing done", forge.register(11), 0);
        Check.same("run(20000)", forge.run(20000), 20000);
        Check.same("20000 NOPs", forge.register(11), 20000);
        forge.put(20003, 118);
        Check.same("up to HALT", forge.run(10), 4);
        Check.same("at HALT", forge.run(10), 1);
        forge.request(1, 0);
        Check.same("a REQUEST, then 3 NOPs", forge.run(4), 4);
        Check.same("PC", forge.register(11), 105);
        forge.put(107, 237);
        Check.same("up to STUCK", forge.run(20000), 3);
        Check.same("PC at STUCK", forge.register(11), 107);
        forge.clear();
        // LD HL,0 LD DE,1000 LD BC,500 LDIR HALT
        Check.putAll(forge, 0, 33, 0, 0, 17, 232, 3, 1, 244, 1, 237, 176, 118);
        Check.same("LDIR in steps", forge.run(20000), 504);
        Check.same("the copy", forge.octet(1009), 237);
        Check.same("BC", forge.register(1), 0);
    }

    private static void does(String text, int af, int hl, int bc, int dueAf, int dueHl, int dueBc) {
        OpcodeForge forge = Check.fed(text);
        forge.forge();
        forge.set(0, af);
        forge.set(3, hl);
        forge.set(1, bc);
        Check.same(text, forge.step(), 1);
        Check.same(text + ": AF", forge.register(0), dueAf);
        Check.same(text + ": HL", forge.register(3), dueHl);
        Check.same(text + ": BC", forge.register(1), dueBc);
    }

    private static void byHand() {
        does("ADD A,1", 0x7FFF, 0, 0, 0x8094, 0, 0);
        does("ADC A,0", 0xFF01, 0, 0, 0x0051, 0, 0);
        does("SUB 1", 0x0000, 0, 0, 0xFFBB, 0, 0);
        does("CP 40", 0x2800, 0, 0, 0x286A, 0, 0);
        does("CP 1", 0x0000, 0, 0, 0x0093, 0, 0);
        does("NEG", 0x80FF, 0, 0, 0x8087, 0, 0);
        does("AND 240", 0xFFFF, 0, 0, 0xF0B4, 0, 0);
        does("XOR A", 0xFFFF, 0, 0, 0x0044, 0, 0);
        does("INC B", 0x0001, 0, 0x7F00, 0x0095, 0, 0x8000);
        does("DEC C", 0x0001, 0, 0x0000, 0x00BB, 0, 0x00FF);
        does("ADD HL,BC", 0x00FF, 0x0FFF, 0x0001, 0x00D4, 0x1000, 0x0001);
        does("SBC HL,BC", 0x0001, 0x0000, 0x0000, 0x00BB, 0xFFFF, 0);
        does("ADC HL,BC", 0x0001, 0x7FFF, 0x0000, 0x0094, 0x8000, 0);
        does("RLCA", 0x81FF, 0, 0, 0x03C5, 0, 0);
        does("SRA B", 0x0000, 0, 0x8100, 0x0085, 0, 0xC000);
        does("BIT 7,B", 0x0001, 0, 0x8000, 0x0091, 0, 0x8000);
        does("BIT 6,B", 0x00FF, 0, 0x8000, 0x0055, 0, 0x8000);
        does("DAA", 0x9A00, 0, 0, 0x0055, 0, 0);
        does("CPL", 0x00FF, 0, 0, 0xFFFF, 0, 0);
        does("CCF", 0x00FF, 0, 0, 0x00D4, 0, 0);
        does("SCF", 0xFF00, 0, 0, 0xFF29, 0, 0);
        does("LDI", 0x0000, 0x1000, 0x0001, 0x0000, 0x1001, 0x0000);
        does("CPI", 0x0001, 0x1000, 0x0002, 0x0047, 0x1001, 0x0001);
        does("INI", 0x0000, 0x1000, 0x0105, 0x0044, 0x1001, 0x0005);
        does("OUTI", 0x0000, 0x1000, 0x0105, 0x0040, 0x1001, 0x0005);
        does("EX DE,HL", 0, 5, 0, 0, 0, 0);
        does("EX (SP),HL", 0, 5, 0, 0, 0xE300, 0);
    }
}
