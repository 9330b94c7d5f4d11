/**
 * The edges of "Terms", 1 INSTRUCTIONS, sentence by sentence: what is an instruction and what, right beside it, is none
 * (promises 7, 8, 18), how numbers are WRITTEN at their ends, and that forge() (promise 3) makes the same octets again.
 */
public final class InstructionEdgesTest {
    private static final int PLACE = 1000;

    public static void main(String[] args) {
        plain();
        behind203();
        behind237();
        behind221();
        behind221203();
        numbers();
        distances();
        targets();
        overTheEnd();
        oneEncoding();
        Check.end("InstructionEdgesTest");
    }

    private static OpcodeForge with(int address, String octets) {
        OpcodeForge forge = new OpcodeForge();
        int at = address;
        for (int octet : Check.numbers(octets)) {
            forge.put(at & 65535, octet);
            at++;
        }
        return forge;
    }

    /** The octets are an instruction, all of them; forge() makes them of its line. */
    private static void is(String octets, String text) {
        writes(PLACE, octets, text, octets);
    }

    private static void writes(int address, String octets, String text, String due) {
        OpcodeForge forge = with(address, octets);
        int size = Check.numbers(octets).size();
        Check.same("write of " + octets, forge.write(address), size);
        Check.same("text of " + octets, Check.written(forge), text);
        forge.set(11, address);
        int answer = forge.step();
        Check.same("step of " + octets, answer, text.equals("HALT") ? 3 : 1);
        if (address + size <= 65536) {
            forge = Check.fed("ORG " + address + "\n" + text);
            Check.same("forge of " + text, forge.forge(), size);
            Check.same("octets of " + text, Check.octetsAt(forge, address, size), due);
        }
    }

    /** The octets begin no instruction: DB and the first one, STUCK. */
    private static void none(String octets) {
        OpcodeForge forge = with(PLACE, octets);
        int first = Check.numbers(octets).get(0);
        Check.same("write of " + octets, forge.write(PLACE), 1);
        Check.same("text of " + octets, Check.written(forge), "DB " + first);
        forge.set(11, PLACE);
        Check.same("step of " + octets, forge.step(), 0);
        Check.same("PC of " + octets, forge.register(11), PLACE);
        Check.same("R of " + octets, forge.register(13), 0);
    }

    private static void plain() {
        Check.holds("Terms 1", "x 0: z 0: y 0 NOP; 1 EX AF,AF'; 2 DJNZ e; 3 JR e; 4 .. 7 JR CC[y - 4],e");
        is("0", "NOP");
        is("8", "EX AF,AF'");
        is("16 5", "DJNZ 1007");
        is("24 5", "JR 1007");
        is("32 5", "JR NZ,1007");
        is("40 5", "JR Z,1007");
        is("48 5", "JR NC,1007");
        is("56 5", "JR C,1007");
        Check.holds("Terms 1", "z 1: q 0 LD RP[p],m; 1 ADD HL,RP[p]. z 2. z 3: q 0 INC RP[p]; 1 DEC RP[p]");
        is("1 2 1", "LD BC,258");
        is("9", "ADD HL,BC");
        is("49 2 1", "LD SP,258");
        is("57", "ADD HL,SP");
        is("2", "LD (BC),A");
        is("10", "LD A,(BC)");
        is("18", "LD (DE),A");
        is("26", "LD A,(DE)");
        is("34 2 1", "LD (258),HL");
        is("42 2 1", "LD HL,(258)");
        is("50 2 1", "LD (258),A");
        is("58 2 1", "LD A,(258)");
        is("3", "INC BC");
        is("11", "DEC BC");
        is("51", "INC SP");
        is("59", "DEC SP");
        Check.holds("Terms 1", "z 4 INC R[y]; z 5 DEC R[y]; z 6 LD R[y],n; z 7");
        is("4", "INC B");
        is("52", "INC (HL)");
        is("60", "INC A");
        is("5", "DEC B");
        is("53", "DEC (HL)");
        is("61", "DEC A");
        is("6 9", "LD B,9");
        is("54 9", "LD (HL),9");
        is("62 9", "LD A,9");
        String[] last = {"RLCA", "RRCA", "RLA", "RRA", "DAA", "CPL", "SCF", "CCF"};
        for (int y = 0; y < 8; y++) {
            is("" + (8 * y + 7), last[y]);
        }
        Check.holds("Terms 1", "x 1: LD R[y],R[z]; but 118 HALT. x 2: AL[y]R[z]");
        is("64", "LD B,B");
        is("117", "LD (HL),L");
        is("118", "HALT");
        is("119", "LD (HL),A");
        is("126", "LD A,(HL)");
        is("127", "LD A,A");
        is("128", "ADD A,B");
        is("143", "ADC A,A");
        is("150", "SUB (HL)");
        is("152", "SBC A,B");
        is("160", "AND B");
        is("175", "XOR A");
        is("176", "OR B");
        is("191", "CP A");
        Check.holds("Terms 1", "x 3");
        is("192", "RET NZ");
        is("248", "RET M");
        is("193", "POP BC");
        is("241", "POP AF");
        is("201", "RET");
        is("217", "EXX");
        is("233", "JP (HL)");
        is("249", "LD SP,HL");
        is("194 2 1", "JP NZ,258");
        is("250 2 1", "JP M,258");
        is("195 2 1", "JP 258");
        is("211 9", "OUT (9),A");
        is("219 9", "IN A,(9)");
        is("227", "EX (SP),HL");
        is("235", "EX DE,HL");
        is("243", "DI");
        is("251", "EI");
        is("196 2 1", "CALL NZ,258");
        is("252 2 1", "CALL M,258");
        is("197", "PUSH BC");
        is("245", "PUSH AF");
        is("205 2 1", "CALL 258");
        is("198 9", "ADD A,9");
        is("214 9", "SUB 9");
        is("254 9", "CP 9");
        Check.holds("Terms 1", "z 7 RST (8 y)");
        is("199", "RST 0");
        is("207", "RST 8");
        is("255", "RST 56");
    }

    private static void behind203() {
        Check.holds("Terms 1", "Behind 203: x 0 RO[y] R[z] (RO: ... SRA (none) SRL); 1 BIT y,R[z]; 2 RES y,R[z]; 3 SET y,R[z]");
        is("203 0", "RLC B");
        is("203 7", "RLC A");
        is("203 8", "RRC B");
        is("203 16", "RL B");
        is("203 24", "RR B");
        is("203 32", "SLA B");
        is("203 40", "SRA B");
        is("203 47", "SRA A");
        for (int z = 0; z < 8; z++) {
            none("203 " + (48 + z));
        }
        is("203 56", "SRL B");
        is("203 62", "SRL (HL)");
        is("203 63", "SRL A");
        is("203 64", "BIT 0,B");
        is("203 127", "BIT 7,A");
        is("203 128", "RES 0,B");
        is("203 191", "RES 7,A");
        is("203 192", "SET 0,B");
        is("203 203", "SET 1,E");
        is("203 255", "SET 7,A");
    }

    private static void behind237() {
        Check.holds("Terms 1", "Behind 237: x 1 and x 2 alone");
        none("237 0");
        none("237 63");
        none("237 192");
        none("237 203");
        none("237 237");
        none("237 255");
        Check.holds("Terms 1", "x 1: z 0 IN R[y],(C), z 1 OUT (C),R[y] (y not 6)");
        is("237 64", "IN B,(C)");
        is("237 104", "IN L,(C)");
        none("237 112");
        is("237 120", "IN A,(C)");
        is("237 65", "OUT (C),B");
        is("237 105", "OUT (C),L");
        none("237 113");
        is("237 121", "OUT (C),A");
        Check.holds("Terms 1", "z 2: q 0 SBC HL,RP[p], 1 ADC HL,RP[p]");
        is("237 66", "SBC HL,BC");
        is("237 74", "ADC HL,BC");
        is("237 98", "SBC HL,HL");
        is("237 114", "SBC HL,SP");
        is("237 122", "ADC HL,SP");
        Check.holds("Terms 1", "z 3: q 0 LD (m),RP[p], 1 LD RP[p],(m) (p not 2)");
        is("237 67 2 1", "LD (258),BC");
        is("237 75 2 1", "LD BC,(258)");
        is("237 83 2 1", "LD (258),DE");
        is("237 91 2 1", "LD DE,(258)");
        none("237 99 2 1");
        none("237 107 2 1");
        is("237 115 2 1", "LD (258),SP");
        is("237 123 2 1", "LD SP,(258)");
        Check.holds("Terms 1", "z 4, y 0: NEG");
        is("237 68", "NEG");
        for (int y = 1; y < 8; y++) {
            none("237 " + (68 + 8 * y));
        }
        Check.holds("Terms 1", "z 5: y 0 RETN, 1 RETI");
        is("237 69", "RETN");
        is("237 77", "RETI");
        for (int y = 2; y < 8; y++) {
            none("237 " + (69 + 8 * y));
        }
        Check.holds("Terms 1", "z 6: y 0, 2, 3 IM 0, IM 1, IM 2");
        is("237 70", "IM 0");
        none("237 78");
        is("237 86", "IM 1");
        is("237 94", "IM 2");
        for (int y = 4; y < 8; y++) {
            none("237 " + (70 + 8 * y));
        }
        Check.holds("Terms 1", "z 7: y 0 .. 5 LD I,A  LD R,A  LD A,I  LD A,R  RRD  RLD");
        String[] last = {"LD I,A", "LD R,A", "LD A,I", "LD A,R", "RRD", "RLD"};
        for (int y = 0; y < 6; y++) {
            is("237 " + (71 + 8 * y), last[y]);
        }
        none("237 119");
        none("237 127");
        Check.holds("Terms 1", "x 2: y 4 .. 7 by z 0 .. 3");
        String[] blocks = {"LDI", "CPI", "INI", "OUTI", "LDD", "CPD", "IND", "OUTD", "LDIR", "CPIR", "INIR", "OTIR", "LDDR", "CPDR", "INDR", "OTDR"};
        for (int y = 0; y < 8; y++) {
            for (int z = 0; z < 8; z++) {
                String octets = "237 " + (128 + 8 * y + z);
                if (y >= 4 && z <= 3) {
                    is(octets, blocks[4 * (y - 4) + z]);
                } else {
                    none(octets);
                }
            }
        }
    }

    private static void behind221() {
        for (int lead = 221; lead <= 253; lead += 32) {
            String name = lead == 221 ? "IX" : "IY";
            String l = lead + " ";
            Check.holds("Terms 1", "those without 203, 237 that have HL, with IX (IY) for each HL");
            is(l + "33 2 1", "LD " + name + ",258");
            is(l + "9", "ADD " + name + ",BC");
            is(l + "41", "ADD " + name + "," + name);
            is(l + "57", "ADD " + name + ",SP");
            is(l + "34 2 1", "LD (258)," + name);
            is(l + "42 2 1", "LD " + name + ",(258)");
            is(l + "35", "INC " + name);
            is(l + "43", "DEC " + name);
            is(l + "225", "POP " + name);
            is(l + "229", "PUSH " + name);
            is(l + "227", "EX (SP)," + name);
            is(l + "249", "LD SP," + name);
            Check.holds("Terms 1", "(not EX DE,HL)");
            none(l + "235");
            Check.holds("Terms 1", "or (HL), with (IX+d) for it, d standing right behind the octet (before n)");
            is(l + "52 9", "INC (" + name + "+9)");
            is(l + "53 9", "DEC (" + name + "+9)");
            is(l + "54 9 8", "LD (" + name + "+9),8");
            is(l + "134 9", "ADD A,(" + name + "+9)");
            is(l + "190 9", "CP (" + name + "+9)");
            Check.holds("Terms 1", "JP (HL) is JP (IX)");
            is(l + "233", "JP (" + name + ")");
            Check.holds("Terms 1", "H and L stay");
            is(l + "102 9", "LD H,(" + name + "+9)");
            is(l + "110 9", "LD L,(" + name + "+9)");
            is(l + "116 9", "LD (" + name + "+9),H");
            is(l + "117 9", "LD (" + name + "+9),L");
            Check.holds("Terms 1", "that have HL, or (HL); nothing else is an instruction");
            for (int octet : new int[] {0, 1, 2, 8, 17, 36, 37, 38, 44, 49, 58, 64, 96, 100, 108, 118, 127, 132, 141, 191, 195, 198, 201, 217, 221, 237,
                251, 253, 255}) {
                none(l + octet);
            }
            is(l + "112 9", "LD (" + name + "+9),B");
            is(l + "119 9", "LD (" + name + "+9),A");
            is(l + "126 9", "LD A,(" + name + "+9)");
            none(l + "237 66");
            none(l + "237 98");
        }
    }

    private static void behind221203() {
        Check.holds("Terms 1", "Behind 221 203 d: those behind 203 with z 6, likewise");
        for (int lead = 221; lead <= 253; lead += 32) {
            String name = lead == 221 ? "(IX" : "(IY";
            String l = lead + " 203 ";
            is(l + "9 6", "RLC " + name + "+9)");
            is(l + "9 46", "SRA " + name + "+9)");
            none(l + "9 54");
            is(l + "9 62", "SRL " + name + "+9)");
            is(l + "9 70", "BIT 0," + name + "+9)");
            is(l + "9 126", "BIT 7," + name + "+9)");
            is(l + "9 134", "RES 0," + name + "+9)");
            is(l + "9 254", "SET 7," + name + "+9)");
            none(l + "9 5");
            none(l + "9 7");
            none(l + "9 71");
            none(l + "9 253");
            none(l + "9 255");
            none(l + "6 0");
            is(l + "6 6", "RLC " + name + "+6)");
        }
    }

    private static void numbers() {
        Check.holds("Terms 1", "numbers with their decimal digits (m, n, e 0 .. 65535 ...; RST's, IM's, bits too)");
        is("62 0", "LD A,0");
        is("62 9", "LD A,9");
        is("62 10", "LD A,10");
        is("62 99", "LD A,99");
        is("62 100", "LD A,100");
        is("62 127", "LD A,127");
        is("62 128", "LD A,128");
        is("62 255", "LD A,255");
        is("211 0", "OUT (0),A");
        is("219 255", "IN A,(255)");
        Check.holds("Terms 1", "m the two octets behind, the lower first");
        is("33 0 0", "LD HL,0");
        is("33 255 0", "LD HL,255");
        is("33 0 1", "LD HL,256");
        is("33 231 3", "LD HL,999");
        is("33 232 3", "LD HL,1000");
        is("33 15 39", "LD HL,9999");
        is("33 16 39", "LD HL,10000");
        is("33 255 127", "LD HL,32767");
        is("33 0 128", "LD HL,32768");
        is("33 255 255", "LD HL,65535");
        is("50 255 255", "LD (65535),A");
        is("205 0 0", "CALL 0");
        Check.holds("Terms 1", "where there is none: DB and the one octet");
        none("203 48");
        none("221 0");
        none("237 0");
        none("253 0");
    }

    private static void distances() {
        Check.holds("Terms 1", "(IX+d) with d from 0 on, (IX-5) below");
        is("221 126 0", "LD A,(IX+0)");
        is("221 126 1", "LD A,(IX+1)");
        is("221 126 127", "LD A,(IX+127)");
        is("221 126 128", "LD A,(IX-128)");
        is("221 126 251", "LD A,(IX-5)");
        is("221 126 255", "LD A,(IX-1)");
        is("253 54 127 255", "LD (IY+127),255");
        is("253 54 128 0", "LD (IY-128),0");
        is("253 203 0 6", "RLC (IY+0)");
        is("253 203 127 254", "SET 7,(IY+127)");
        is("253 203 128 254", "SET 7,(IY-128)");
        is("253 203 255 70", "BIT 0,(IY-1)");
    }

    private static void targets() {
        Check.holds("Terms 1", "e: the address behind the instruction, and d, as a number with sign");
        is("24 0", "JR 1002");
        is("24 127", "JR 1129");
        is("24 128", "JR 874");
        is("24 255", "JR 1001");
        is("24 254", "JR 1000");
        is("16 127", "DJNZ 1129");
        is("16 128", "DJNZ 874");
        is("56 128", "JR C,874");
        Check.holds("Terms 1", "addresses modulo 65536");
        writes(0, "24 254", "JR 0", "24 254");
        writes(0, "24 253", "JR 65535", "24 253");
        writes(126, "24 128", "JR 0", "24 128");
        writes(125, "24 128", "JR 65535", "24 128");
        writes(65534, "24 0", "JR 0", "24 0");
        writes(65534, "24 255", "JR 65535", "24 255");
        writes(65534, "16 127", "DJNZ 127", "16 127");
        writes(65406, "24 127", "JR 65535", "24 127");
        writes(65407, "24 127", "JR 0", "24 127");
        writes(65535, "24 0", "JR 1", "24 0");
        writes(65535, "24 253", "JR 65534", "24 253");
    }

    private static void overTheEnd() {
        Check.holds("Terms 1", "addresses modulo 65536: octets behind 65535 are those from 0 on");
        writes(65535, "62 9", "LD A,9", "");
        writes(65535, "33 2 1", "LD HL,258", "");
        writes(65534, "33 2 1", "LD HL,258", "");
        writes(65535, "221 33 2 1", "LD IX,258", "");
        writes(65534, "221 33 2 1", "LD IX,258", "");
        writes(65533, "221 54 5 6", "LD (IX+5),6", "");
        writes(65535, "221 203 251 254", "SET 7,(IX-5)", "");
        writes(65534, "221 203 251 254", "SET 7,(IX-5)", "");
        writes(65533, "253 203 5 6", "RLC (IY+5)", "");
        writes(65535, "203 63", "SRL A", "");
        writes(65535, "237 75 2 1", "LD BC,(258)", "");
        OpcodeForge forge = with(65535, "237 0");
        Check.same("none over the end", forge.write(65535), 1);
        Check.same("its text", Check.written(forge), "DB 237");
    }

    private static void oneEncoding() {
        Check.holds("Terms 2", "SIZE and octets are those of the instruction that is WRITTEN so");
        Check.forges("LD HL,(5)\nLD (5),HL", 0, "42 5 0 34 5 0");
        Check.forges("LD BC,(5)\nLD (5),BC", 0, "237 75 5 0 237 67 5 0");
        Check.forges("LD A,(HL)\nLD A,(5)\nLD A,5", 0, "126 58 5 0 62 5");
        Check.forges("IN A,(5)\nIN A,(C)\nOUT (5),A\nOUT (C),A", 0, "219 5 237 120 211 5 237 121");
        Check.forges("JP C,5\nJR C,7\nRET C\nLD C,5\nCALL C,9", 0, "218 5 0 56 2 216 14 5 220 9 0");
        Check.forges("ADD A,5\nADD HL,HL\nADD A,A\nSUB 5\nSUB A", 0, "198 5 41 135 214 5 151");
    }
}
