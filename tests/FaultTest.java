/** Promises 3 and 4 (forge, told) where SOURCE has a FAULT: which it is, and where. The mark ` stands ahead of its place. */
public final class FaultTest {
    public static void main(String[] args) {
        noToken();
        notHere();
        places();
        names();
        notKnown();
        outOfRange();
        noSuchWord();
        parts();
        beyondMemory();
        tooManyLines();
        orderInALine();
        orderOfPasses();
        tooDeep();
        Check.end("FaultTest");
    }

    private static void noToken() {
        for (String bad : new String[] {"?", "!", "#", "=", "[", ".", "\200", "\377", "\000", "\013", "\014", "<", ">", "$", "%",
            "'", "''", "'ab'", "'\t'", "'\177'", "\"", "\"ab", "\"a\tb\"", "\"a\177\"", "\"a\037\"", "\"a\200\"", "65536", "99999999999999999999", "$10000",
            "%10000000000000000", "a234567890123", "_____________", "$G", "%2", "<a<", "> >"}) {
            Check.faults("DB 1,`" + bad, 1);
            Check.faults("DB 1,`" + bad + "\nDB 1", 1);
            Check.faults("`" + bad, 1);
            Check.faults("X: `" + bad, 1);
            Check.faults("NOP `" + bad, 1);
        }
        Check.faults("DB 1 `?", 1);
        Check.faults("`X?", 6);
        Check.faults("DB 5`#", 1);
        Check.faults("`X ? : NOP", 6);
        Check.faults("DB \"it\"`'", 1);
        Check.faults("DB '''`'", 1);
        Check.faults("`a234567890123:", 1);
        Check.faults("`a234567890123 EQU 5", 1);
    }

    private static void notHere() {
        Check.faults("`5", 2);
        Check.faults("`:", 2);
        Check.faults("`(", 2);
        Check.faults("X: `: NOP", 2);
        Check.faults("X: `5", 2);
        Check.faults("X: `\"\"", 2);
        Check.faults("ORG`", 2);
        Check.faults("ORG `\nNOP", 2);
        Check.faults("ORG ;5`\n", 2);
        Check.faults("ORG ;5`", 2);
        Check.faults("ORG 5 `6", 2);
        Check.faults("ORG 5`,6", 2);
        Check.faults("ORG `,6", 2);
        Check.faults("ORG 5`:", 2);
        Check.faults("X EQU`", 2);
        Check.faults("X EQU 5`,", 2);
        Check.faults("DB`", 2);
        Check.faults("DB `,1", 2);
        Check.faults("DB 1,`", 2);
        Check.faults("DB 1,`,2", 2);
        Check.faults("DB 1 `2", 2);
        Check.faults("DB \"a\" `1", 2);
        Check.faults("DB \"a\"`+1", 2);
        Check.faults("DB 1+`\"a\"", 2);
        Check.faults("DB 1`\"a\"", 2);
        Check.faults("DW `\"a\"", 2);
        Check.faults("DW 1,`\"a\"", 2);
        Check.faults("DW`", 2);
        Check.faults("DS`", 2);
        Check.faults("DS 1,`", 2);
        Check.faults("DS 1,2`,3", 2);
        Check.faults("DS 1 `2", 2);
        Check.faults("DS `\"a\"", 2);
        Check.faults("IF`", 2);
        Check.faults("IF 1`,2\nENDIF", 2);
        Check.faults("IF 1\nELSE `5\nENDIF", 2);
        Check.faults("IF 1\nENDIF `X", 2);
        Check.faults("IF 1\n`ENDIF :", 3);
        Check.faults("DB 1+`", 2);
        Check.faults("DB 1+`*2", 2);
        Check.faults("DB 1+`|2", 2);
        Check.faults("DB 1 `~2", 2);
        Check.faults("DB 1`(2)", 2);
        Check.faults("DB (1`", 2);
        Check.faults("DB (1`,2)", 2);
        Check.faults("DB (1)`)", 2);
        Check.faults("DB (`)", 2);
        Check.faults("DB `)", 2);
        Check.faults("DB @`@", 2);
        Check.faults("DB 1`'2'", 2);
        Check.faults("DB %1`2", 2);
        Check.faults("DB 1`X", 2);
        for (String word : ("A B C D E H L I R AF AF' BC DE HL SP IX IY NZ Z NC PO PE P M NOP LD OTDR RST ORG EQU DB DW DS IF "
            + "ELSE ENDIF im Ldir sla").split(" ")) {
            Check.faults("DB 1,`" + word, 2);
            Check.faults("DB 1+`" + word, 2);
            Check.faults("LD HL,1+`" + word, 2);
        }
    }

    private static void places() {
        Check.faults("LD A,(`IX", 2);
        Check.faults("LD A,(`IX+?", 2);
        Check.faults("LD (IX-200),(`", 2);
        Check.faults("LD A,B`,C", 2);
        Check.faults("LD A,B`,", 2);
        Check.faults("NOP 1,2`,", 2);
        Check.faults("LD `A+1,5", 2);
        Check.faults("LD `A B", 2);
        Check.faults("LD `A?", 2);
        Check.faults("LD A,`B ?", 2);
        Check.faults("LD A,(`HL) ?", 2);
        Check.faults("EX AF,`AF''", 2);
        Check.faults("LD A,(`IX*2)", 2);
        Check.faults("LD A,(`IX 5)", 2);
        Check.faults("LD A,(`HL+1)", 2);
        Check.faults("LD A,(`HL)+1", 2);
        Check.faults("LD A,(`BC", 2);
        Check.faults("LD A,((`HL))", 2);
        Check.faults("LD A,((`IX+5))", 2);
        Check.faults("LD A,(`NZ)", 2);
        Check.faults("LD A,(`A)", 2);
        Check.faults("LD A,(`)", 2);
        Check.faults("LD A,(IX+`)", 2);
        Check.faults("LD A,(IX+5`,3)", 2);
        Check.faults("LD A,(5`,3)", 2);
        Check.faults("LD A,(5 `6)", 2);
        Check.faults("LD A,(IX-5 `6),?", 2);
        Check.faults("LD A,(`IX+5) 6", 2);
        Check.faults("LD A,(`IX+5)+6", 2);
        Check.faults("LD A,(`IX)?", 2);
        Check.faults("LD A,(`IX):", 2);
        Check.faults("LD A,(5)`)", 2);
        Check.faults("LD A,(5)+`", 2);
        Check.faults("LD A,(5`", 2);
        Check.faults("LD A,(5;)`", 2);
        Check.faults("LD A,`,B", 2);
        Check.faults("LD `,B", 2);
        Check.faults("LD `A:", 2);
        Check.faults("`NOP :", 3);
        Check.faults("NOP 1`:", 2);
        Check.faults("`DB EQU", 3);
        Check.faults("JP (`IX", 2);
        Check.faults("JP (`HL) 5", 2);
        Check.faults("LD A,`\"a\"", 2);
        Check.faults("LD A,(`\"a\")", 2);
        Check.faults("LD A,(1+`\"a\")", 2);
    }

    private static void names() {
        Check.faults("X:\n`X:", 3);
        Check.faults("X EQU 1\n`x EQU 1", 3);
        Check.faults("X:`X EQU 1", 3);
        Check.faults("X:\n`X: ?", 3);
        Check.faults("X:\nY: `X EQU ?", 3);
        for (String word : "A C AF AF' BC IY NZ M NOP ld OTIR ORG EQU DB ENDIF P I R".split(" ")) {
            Check.faults("`" + word + ": NOP", 3);
            Check.faults("`" + word + " EQU 5", 3);
            Check.faults("Q: `" + word + " EQU ?", 3);
        }
        OpcodeForge forge = Check.fed("X:\nY:\nX EQU 5");
        Check.same("told already", forge.forge(), -13);
        Check.same("its line", forge.told(0), 3);
    }

    private static void notKnown() {
        Check.faults("ORG `X", 4);
        Check.faults("ORG `X\nX EQU 5", 4);
        Check.faults("X EQU `X", 4);
        Check.faults("X EQU 1+`Y\nY:", 4);
        Check.faults("DS `X\nX:", 4);
        Check.faults("IF `X\nENDIF\nX:", 4);
        Check.faults("DS 1,`X", 4);
        Check.faults("DB `X", 4);
        Check.faults("DB 1,2+`X+Y", 4);
        Check.faults("DW `X", 4);
        Check.faults("LD A,`X", 4);
        Check.faults("LD A,(`X)", 4);
        Check.faults("LD A,(IX+`X)", 4);
        Check.faults("JR `X", 4);
        Check.faults("RST `X", 4);
        Check.faults("IM `X", 4);
        Check.faults("BIT `X,A", 4);
        Check.faults("OUT (`X),A", 4);
        Check.faults("DB `X+300", 4);
        Check.faults("DB `X/0", 4);
        Check.faults("DB 0/`X", 4);
        Check.faults("DB 1/(`X*0)", 4);
        Check.faults("IF 0\nX:\nENDIF\nDB `X", 4);
        Check.faults("LD (`X),A", 4);
        Check.faults("DB \"a\",`X,300", 4);
    }

    private static void outOfRange() {
        Check.faults("DB `256", 5);
        Check.faults("DB 1,`-129", 5);
        Check.faults("DB 1,`2+300,300", 5);
        Check.faults("DW `65535+1", 5);
        Check.faults("DW `-32769", 5);
        Check.faults("DS `-1", 5);
        Check.faults("DS `65535+1", 5);
        Check.faults("DS 1,`256", 5);
        Check.faults("DS 0,`-129", 5);
        Check.faults("ORG `-1", 5);
        Check.faults("ORG `65535+1", 5);
        Check.faults("LD A,`256", 5);
        Check.faults("LD A,`-129", 5);
        Check.faults("ADD A,`256", 5);
        Check.faults("CP `-129", 5);
        Check.faults("LD HL,`65535+1", 5);
        Check.faults("LD HL,`-32769", 5);
        Check.faults("LD HL,(`65535+1)", 5);
        Check.faults("LD A,(`-32769)", 5);
        Check.faults("JP `65535+1", 5);
        Check.faults("CALL NZ,`-32769", 5);
        Check.faults("OUT (`256),A", 5);
        Check.faults("IN A,(`-129)", 5);
        Check.faults("LD (IX+`128),1", 5);
        Check.faults("LD (IX+`-129),1", 5);
        Check.faults("LD (IY-`129),1", 5);
        Check.faults("LD (IY-`-128),1", 5);
        Check.faults("RLC (IX+`200)", 5);
        Check.faults("BIT `8,A", 5);
        Check.faults("BIT `-1,A", 5);
        Check.faults("SET `8,(IX+500)", 5);
        Check.faults("RST `64", 5);
        Check.faults("RST `1", 5);
        Check.faults("RST `-8", 5);
        Check.faults("RST `60", 5);
        Check.faults("IM `3", 5);
        Check.faults("IM `-1", 5);
        Check.faults("JR `@+130", 5);
        Check.faults("JR `@-127", 5);
        Check.faults("DJNZ `@+130", 5);
        Check.faults("JR NZ,`@-127", 5);
        Check.faults("JR `$8000<<1>>1", 5);
        Check.faults("JR `(1)+500", 5);
        Check.faults("DB 1`/0", 5);
        Check.faults("DB 1+2`/(1-1)*3", 5);
        Check.faults("DB 7/2`/0/0", 5);
        Check.faults("DB 300`/0", 5);
        Check.faults("DB 1/(2`/0)", 5);
        Check.faults("DB 1`/0+X", 5);
        Check.faults("ORG 1`/0", 5);
        Check.faults("DS 1`/0,300", 5);
        Check.faults("IF 1`/0\nENDIF", 5);
        Check.faults("X EQU 1`/0", 5);
        Check.faults("ORG 65535\nNOP\nX:ORG `X", 5);
    }

    private static void noSuchWord() {
        Check.faults("`FOO", 6);
        Check.faults("`FOO ?", 6);
        Check.faults("`A", 6);
        Check.faults("`HL 5", 6);
        Check.faults("`EQU 5", 6);
        Check.faults("X: `EQU 5", 6);
        Check.faults("X: `X: NOP", 6);
        Check.faults("X: `Y: NOP", 6);
        Check.faults("`X Y EQU 5", 6);
        Check.faults("`EQU", 6);
        Check.faults("`AF' 5", 6);
        for (String line : new String[] {"NOP 5", "LD", "LD A", "LD A,HL", "LD HL,A", "LD (HL),(HL)", "LD (5),5", "LD (BC),B", "LD (DE),5",
            "LD BC,DE", "LD SP,BC", "LD (C),A", "LD A,(C)", "LD A,(SP)", "LD A,AF", "LD IX,HL", "LD IX,IY", "LD H,IX", "LD I,5",
            "LD R,B", "LD B,I", "LD AF,5", "LD 5,A", "LD A,NZ", "LD NZ,A", "LD B,(5)", "LD (5),B", "LD (5),AF", "LD (IX+1),(IY+1)",
            "EX HL,DE", "EX AF',AF", "EX AF,AF", "EX DE,IX", "EX (SP),DE", "EX HL,(SP)", "EX BC,DE", "DJNZ NZ,5", "DJNZ", "JR PO,5",
            "JR M,5", "JR (5)", "JR (HL)", "JP (5)", "JP (IX+0)", "JP (IY-0)", "JP NZ,(HL)", "JP HL", "JP IX", "JP A", "JP 5,5",
            "CALL (5)", "CALL A,5", "CALL B,5", "JP (BC)", "RET 5", "RET A", "RET NZ,5", "ADD B", "ADD 5", "ADD A,HL", "ADD HL,IX",
            "ADD IX,HL", "ADD IX,IY", "ADD IY,IX", "ADD BC,DE", "ADC IX,BC", "ADC B", "SBC 5", "SBC IX,IX", "SUB A,B", "SUB HL", "SUB HL,BC",
            "AND A,5", "XOR A,A", "OR HL", "CP A,5", "CP (BC)", "ADD A,(5)", "INC AF", "INC 5", "INC (5)", "INC I", "DEC (BC)", "DEC", "INC A,A",
            "PUSH SP", "PUSH A", "PUSH 5", "POP SP", "POP PC", "POP AF'", "EXX 5", "RLCA A", "DAA 5", "IN (C),A", "IN B,(5)", "IN A,5",
            "IN HL,(C)", "IN (HL),(C)", "IN A,(BC)", "OUT (C),5", "OUT (C),(HL)", "OUT (5),B", "OUT 5,A", "OUT A,(C)",
            "OUT (C),HL", "IN I,(C)", "DI 5", "RST", "RST A", "RST (8)", "IM", "IM A", "BIT A,5", "BIT 5", "BIT 5,HL", "BIT (5),A", "SET 5,5",
            "RES 5,(5)", "SET 5,(BC)", "RLC 5", "RLC (5)", "RL A,A", "SLA", "SRL BC", "SRA IX", "SLA (IX+1),A", "NEG A", "RETN 5",
            "LDIR A", "CPD 5", "HALT 5", "RRD A", "LD A,IX", "LD (IX),(HL)", "LD C,NC", "RST 8,8", "EX (SP)",
            "JP IX,5", "JP PE", "JR NZ", "CALL NZ", "DJNZ 5,5", "JP (SP)", "JP (C)", "LD (SP),HL", "LD (HL),HL", "LD (HL),(IX+1)",
            "LD HL,(HL)", "LD HL,(IX+1)", "LD HL,SP", "LD IX,SP", "INC (SP)", "PUSH (HL)", "POP 5", "ADD SP,5", "LD AF,AF'"}) {
            Check.faults("`" + line, 6);
            Check.faults("X:`" + line + " ;", 6);
        }
    }

    private static void parts() {
        Check.faults("`ELSE", 7);
        Check.faults("`ENDIF", 7);
        Check.faults("`ELSE ?", 7);
        Check.faults("X:`ENDIF 5", 7);
        Check.faults("IF 1\nELSE\n`ELSE\nENDIF", 7);
        Check.faults("IF 0\nELSE\n`ELSE ?\nENDIF", 7);
        Check.faults("IF 0\nIF 1\nELSE\nX: `ELSE\nENDIF\nENDIF", 7);
        Check.faults("IF 1\nENDIF\n`ENDIF", 7);
        Check.faults("IF 0\nENDIF\n`ENDIF", 7);
        String eight = "IF 1\n".repeat(8);
        Check.faults(eight + "`IF 1", 7);
        Check.faults(eight + "`IF ?", 7);
        Check.faults(eight + "X:`IF Y", 7);
        Check.faults(eight.replace('1', '0') + "`IF ?", 7);
        Check.faults(eight.replace('1', '0') + "A: `IF ?", 7);
        Check.faults("IF 0\nELSE\n" + eight.substring(5) + "`IF", 7);
        Check.faults("IF 1`", 7);
        Check.faults("IF 1\n", 7, 1, 5);
        Check.faults("IF 1\n\n;x`", 7);
        Check.faults("IF 0\n?`", 7);
        Check.faults("IF 1\nELSE\n NOP`", 7);
        Check.faults("IF 0\nIF 1\nENDIF`", 7);
        Check.faults("IF 1\n`FOO\n", 6);
        Check.faults("IF 1\nNOP `?", 1);
        Check.faults("IF 1\nORG`", 2);
        Check.faults("IF 1\nDB X`", 7);
        Check.faults("IF 1\nORG `X", 4);
        Check.faults("IF 1\n\n", 7, 2, 6);
        Check.faults("IF `X", 4);
    }

    private static void beyondMemory() {
        Check.faults("ORG 65535\n`DW 1", 8);
        Check.faults("ORG 65535\nNOP\n`NOP", 8);
        Check.faults("ORG 65535\nX: `DB \"ab\"", 8);
        Check.faults("ORG 65534\n`LD A,(5)", 8);
        Check.faults("ORG 65533\n`LD (IX+1),1", 8);
        Check.faults("ORG 65533\n`RLC (IX+1)", 8);
        Check.faults("ORG 1\n DS 65535\n`DS 1", 8);
        Check.faults("ORG 2\n`DS 65535", 8);
        Check.faults("ORG 65535\n`DS 10,X", 8);
        Check.faults("ORG 65535\n`DB X,300,1/0", 8);
        Check.faults("ORG 65535\nDB 1,2,`?", 1);
        Check.faults("ORG 65535\nDS 10 `5", 2);
        Check.faults("ORG 65535\nLD BC,`", 2);
        Check.faults("ORG 65535\n`LD BC", 6);
        Check.faults("ORG 65535\nNOP\nDS `-1", 5);
        Check.faults("ORG 65535\nDB 1\nDS `X", 4);
    }

    private static void tooManyLines() {
        String lines = "\n".repeat(300);
        Check.faults(lines + "` ", 9);
        Check.faults(lines + "`\n", 9);
        Check.faults(lines + "`?", 9);
        Check.faults(lines + "`ELSE", 9);
        Check.faults("IF 1" + lines + "` ", 9);
        Check.faults("IF 0" + lines + "` ELSE", 9);
        Check.faults("DB 300" + lines + "`DB", 9);
        Check.faults("DB `300" + lines, 5);
        Check.faults("IF 1" + lines, 7, 300, 304);
    }

    private static void orderInALine() {
        Check.faults("ORG `0-5?", 5);
        Check.faults("DS `0-1?", 5);
        Check.faults("ORG `X ?", 4);
        Check.faults("ORG 0*`X-5", 4);
        Check.faults("DS `X,?", 4);
        Check.faults("DS 1`/0,,", 5);
        Check.faults("DS `-1,,", 5);
        Check.faults("ORG (5`/0", 5);
        Check.faults("ORG 5`/0 ?", 5);
        Check.faults("ORG 5`/0*?", 5);
        Check.faults("ORG (5`/(1-1)", 5);
        Check.faults("IF `X+?", 4);
        Check.faults("IF `X Y\nENDIF", 4);
        Check.faults("X EQU `Y,", 4);
        Check.faults("ORG -5+`?", 1);
        Check.faults("DS `-5,", 5);
        Check.faults("DS `X,Y", 4);
        Check.faults("LD (IX+`200),FOO", 5);
        Check.faults("BIT `9,(IX+FOO)", 5);
        Check.faults("LD (IX+`200),1/0", 5);
        Check.faults("LD (IX+20),1`/0", 5);
        Check.faults("DB `X+300,1/0\n", 4);
        Check.faults("X: DB`", 2);
        Check.faults("LD BC,X+`70000\n", 1);
        Check.faults("X: `X: ?", 6);
    }

    private static void orderOfPasses() {
        Check.faults("DB 300\n`FOO", 6);
        Check.faults("DB X\nORG 65535\n`DW 1", 8);
        Check.faults("DB `X\nDB 300", 4);
        Check.faults("DB 1\nDB `300\nDB X", 5);
        Check.faults("JR X\nDS 200\nX: `ELSE", 7);
        Check.faults("JR `X\nDS 200\nX:", 5);
        Check.faults("`FOO\n?", 6);
        Check.faults("NOP `?\nFOO", 1);
        Check.faults("LD A,300\nIF 1`", 7);
    }

    private static void tooDeep() {
        String open = "(".repeat(40);
        Check.faults("DB " + open + "`(1" + ")".repeat(41), 2);
        Check.faults("DB " + open + "`~1" + ")".repeat(40), 2);
        Check.faults("DB " + "-".repeat(40) + "`-1", 2);
        Check.faults("DB " + "~".repeat(40) + "`(1)", 2);
        Check.faults("DB (" + "-(".repeat(19) + "-1+-1+~`-~1", 2);
        Check.faults("DB 1-" + open + "1-`-1", 2);
        Check.faults("LD A,((" + open.substring(1) + "`(1" + ")".repeat(42), 2);
        Check.faults("LD (IX+" + open + "`(1" + ")".repeat(42), 2);
        Check.faults("`" + "(".repeat(6000), 2);
        Check.faults("DB-1" + "+1".repeat(2997) + "+`", 2);
        Check.faults("DB-1" + "+1".repeat(2997) + "+-`", 2);
        Check.faults("X:`Y" + ":".repeat(5997), 6);
        Check.faults("LD A,(" + "1".repeat(5994), 1, 1, 6);
        Check.faults("`" + "X".repeat(6000), 1);
        Check.faults("DB `" + "9".repeat(5997), 1);
        Check.faults("DB `\"" + "9".repeat(5996), 1);
        Check.faults("LD " + "(".repeat(40) + "`" + "(".repeat(5957), 2);
        Check.faults("DB 1," + open + "1" + ")".repeat(40) + "+" + open + "`~2", 2);
    }
}
