/**
 * The edges of the FAULTS 1 to 9 of "Terms", 2 SOURCE, and of their order (promises 3 and 4), sentence by sentence.
 * In a text the mark ` stands ahead of the FAULT's place; beside each FAULT stands what is none.
 */
public final class FaultEdgesTest {
    private static final String TERMS = "Terms 2, FAULTS";

    public static void main(String[] args) {
        noToken();
        cannotStand();
        toldAlready();
        notKnown();
        outOfRange();
        divisions();
        noSuchInstruction();
        conditionParts();
        openConditions();
        beyondMemory();
        tooManyLines();
        firstLine();
        firstPlace();
        samePlace();
        firstPass();
        readNoFurther();
        readToTheEnd();
        secondPass();
        Check.end("FaultEdgesTest");
    }

    private static void good(String text, String octets) {
        Check.forges(text, 0, octets);
    }

    private static void bad(String marked, int code) {
        Check.faults(marked, code);
    }

    private static void noToken() {
        Check.holds(TERMS, "1 no token begins there");
        bad("`?", 1);
        bad("   `?", 1);
        bad("X:`?", 1);
        bad("NOP`?", 1);
        bad("DB 1`?", 1);
        bad("DB 1 , `?", 1);
        bad("ORG `?", 1);
        bad("LD A,`?", 1);
        bad("LD A,5`?", 1);
        bad("X EQU `?", 1);
        bad("X EQU 5`?", 1);
        bad("IF `?", 1);
        bad("IF 1\nENDIF`?", 1);
        good("NOP;?", "0");
        good("DB '?',\"?\"", "63 63");
    }

    private static void cannotStand() {
        Check.holds(TERMS, "2 it cannot stand there (the line's end, too: where its 10 is, or SOURCE ends, also behind a ; )");
        bad("DB`", 2);
        bad("DB`\n", 2);
        bad("DB `", 2);
        bad("DB  `\n\n", 2);
        bad("DB;5`", 2);
        bad("DB ; 5 `\nNOP", 2);
        bad("DB 1,;2`", 2);
        bad("DB 1,;2`\n", 2);
        bad("LD A,`", 2);
        bad("LD A,`\n", 2);
        bad("LD A,;B`\n", 2);
        bad("LD A,(5 ;)`\n", 2);
        bad("X EQU;5 ;`", 2);
        bad("DB 1+`", 2);
        bad("DB -`", 2);
        bad("DB (`", 2);
        bad("DB (1`", 2);
        bad("DB (1 ;)`\n", 2);
        good("DB (1);", "1");
    }

    private static void toldAlready() {
        Check.holds(TERMS, "3 a LABEL, EQU's NAME that is RESERVED, or told already; the 201st");
        good("X:\nX1:\nX_:", "");
        bad("X:\n`X:", 3);
        bad("X:\n`x:", 3);
        bad("X:\n`X EQU 0", 3);
        bad("X EQU 0\n`X:", 3);
        bad("X EQU 0\n`X EQU 0", 3);
        bad("X:`X EQU 0", 3);
        bad("X:\nY:`X EQU 0", 3);
        bad("`HL:", 3);
        bad("`HL EQU 5", 3);
        bad("Y:`HL EQU 5", 3);
        bad("`EQU:", 3);
        bad("`EQU EQU 5", 3);
        bad("`NOP EQU 5", 3);
        bad("  `NOP : NOP", 3);
        good("IF 0\nX:\nNOP:\nENDIF\nX:", "");
        good("IF 1\nX:\nELSE\nX:\nENDIF", "");
    }

    private static void notKnown() {
        Check.holds(TERMS, "4 (at the NAME) it is not known (in the second PASS; in the first where it must be)");
        bad("DB 1+`X", 4);
        bad("DB 1,2,`X", 4);
        bad("DB `X+Y", 4);
        bad("DB (1+(`X))", 4);
        bad("DW -`X", 4);
        bad("DS 1,`X", 4);
        bad("LD A,`X", 4);
        bad("LD (IX+`X),1", 4);
        bad("LD (IX-`X),1", 4);
        bad("LD (`X),A", 4);
        bad("JR `X", 4);
        bad("SET `X,A", 4);
        bad("ORG `X", 4);
        bad("ORG `X\nX:", 4);
        bad("Y EQU `X\nX:", 4);
        bad("DS `X\nX:", 4);
        bad("IF `X\nENDIF\nX:", 4);
        good("DB X\nX:", "1");
        good("DB X+Y*2\nX:\nY:", "3");
        bad("`FOO\nORG X", 6);
        bad("DB X\nORG `Y\nX:", 4);
        bad("IF 0\nX:\nENDIF\nDB `X", 4);
        Check.holds(TERMS, "4: an exp whose VALUE is not known is in no range and out of none");
        bad("DB 300+`X", 4);
        bad("DB 0-300*`X", 4);
        bad("LD A,300+`X", 4);
        bad("LD (IX+300+`X),300", 4);
        bad("ORG -1+`X", 4);
        bad("DS -1+`X", 4);
        bad("DB 1/`X", 4);
        bad("DB 300/`X", 4);
        bad("DB 1/(0*`X)", 4);
        bad("DB 300+1`/0", 5);
        bad("LD A,300+1`/0", 5);
        bad("ORG -1+1`/0", 5);
        bad("DB 1/(2`/0)", 5);
    }

    private static void outOfRange() {
        Check.holds(TERMS, "5 (at an exp's first token) out of its range");
        bad("DB `256", 5);
        bad("DB `255+1", 5);
        bad("DB `(255)+1", 5);
        bad("DB `-255", 5);
        bad("DB `~255", 5);
        bad("DB 255,`256,256", 5);
        bad("DW 1,`-32768-1", 5);
        bad("LD A,`(200)+56", 5);
        bad("LD A,( `65535+1)", 5);
        bad("LD A,(`(65535)+1)", 5);
        bad("LD (IX+`100+28),1", 5);
        bad("LD (IX - `(100)+29),1", 5);
        bad("OUT (`256),A", 5);
        bad("ORG `65535+1", 5);
        bad("DS `0-1", 5);
        bad("DS 1,`256", 5);
        bad("BIT `8,A", 5);
        bad("IM `3", 5);
        bad("RST `57", 5);
        bad("JR `130", 5);
        bad("JR NZ,`130", 5);
        good("X EQU 65535*3\nIF X\nENDIF", "");
    }

    private static void divisions() {
        Check.holds(TERMS, "5 / by 0 (at the / )");
        bad("DB 1`/0", 5);
        bad("DB 300`/0", 5);
        bad("DB 0`/0", 5);
        bad("DB 1 `/ (1-1)", 5);
        bad("DB 4/2`/0", 5);
        bad("DB 1+2*3`/0", 5);
        bad("DB 1`/0+2/0", 5);
        bad("DB (1`/0)", 5);
        bad("DB 1`/-0", 5);
        bad("DB 1`/(1/2)", 5);
        bad("DB 1`/X\nX EQU 0", 5);
        bad("ORG 1`/0", 5);
        bad("X EQU 1`/0", 5);
        bad("DS 1`/0", 5);
        bad("DS 1,1`/0", 5);
        bad("IF 1`/0\nENDIF", 5);
        bad("LD A,1`/0", 5);
        bad("LD (IX+1`/0),1", 5);
        bad("LD HL,(1`/0)", 5);
        good("DB 0/1,0/-1,5/5", "0 0 1");
        good("DB 1/~0", "255");
    }

    private static void noSuchInstruction() {
        Check.holds(TERMS, "6 (at the word) no instruction has such operands; the word is none");
        bad("`LD B,HL", 6);
        bad("X: `LD B,HL ;", 6);
        bad("`LD (HL),(HL)", 6);
        bad("`LD A,AF", 6);
        bad("`ADD 5", 6);
        bad("`SUB A,5", 6);
        bad("`JR PO,5", 6);
        bad("`PUSH SP", 6);
        bad("`NOP 5", 6);
        bad("`LD", 6);
        bad("`IN B,(5)", 6);
        bad("`IN (HL),(C)", 6);
        bad("`OUT (C),(HL)", 6);
        bad("`OUT (C),0", 6);
        bad("`EX DE,IX", 6);
        bad("`ADD IX,HL", 6);
        bad("`ADD IX,IY", 6);
        bad("`LD IX,(HL)", 6);
        bad("`LD (IX+1),(IX+1)", 6);
        bad("`SLL A", 6);
        bad("`RLC BC", 6);
        good("JR NC,2\nPUSH AF\nADD IX,IX\nSUB 5\nIN B,(C)", "48 0 245 221 41 214 5 237 64");
        bad("`FOO", 6);
        bad("X:`FOO", 6);
        bad("`FOO 1,2", 6);
        bad("`A", 6);
        bad("`NZ 5", 6);
        Check.holds(TERMS, "6 (EQU with no NAME right ahead of it is none, behind a LABEL : , too)");
        bad("`EQU 5", 6);
        bad(" `EQU", 6);
        bad("X:`EQU 5", 6);
        bad("X : `EQU", 6);
        bad("`EQU ?", 6);
        bad("X:`EQU ?", 6);
        good("X:Y EQU 5", "");
    }

    private static void conditionParts() {
        Check.holds(TERMS, "7 ELSE, ENDIF without IF, a second ELSE (there), a ninth IF");
        bad("`ELSE", 7);
        bad("`ENDIF", 7);
        bad("X: `ELSE", 7);
        bad("X: `ENDIF", 7);
        bad("IF 1\nENDIF\n`ELSE", 7);
        bad("IF 1\nENDIF\n`ENDIF", 7);
        bad("IF 0\nENDIF\n`ENDIF", 7);
        for (String exp : new String[] {"0", "1"}) {
            String text = "IF " + exp + "\nELSE\n";
            bad(text + "`ELSE\nENDIF", 7);
            bad(text + "X: `ELSE\nENDIF", 7);
            bad("IF 0\n" + text + "`ELSE\nENDIF\nENDIF", 7);
            bad("IF 0\n" + text + " X : `ELSE\nENDIF\nENDIF", 7);
            bad("IF 1\n" + text + "`ELSE\nENDIF\nENDIF", 7);
            good("IF 1\n" + text + "ENDIF\nELSE\nENDIF", "");
            good("IF 0\n" + text + "ENDIF\nELSE\nENDIF", "");
            bad("IF 1\n" + text + "ENDIF\nELSE\nENDIF\n`ENDIF", 7);
            String eight = ("IF " + exp + "\n").repeat(8);
            good(eight + "ENDIF\n".repeat(8), "");
            bad(eight + "`IF 1\n", 7);
            bad(eight + "X: `IF 1\n", 7);
            bad(eight + "`IF\n", 7);
            bad(eight + "`IF ?\n", 7);
            bad(eight + "ENDIF\n".repeat(8) + "`ENDIF", 7);
        }
    }

    private static void openConditions() {
        Check.holds(TERMS, "7 at the end of SOURCE (of the last line) an IF without ENDIF");
        bad("IF 1`", 7);
        Check.faults("IF 1\n", 7, 1, 5);
        Check.faults("IF 1\n\n", 7, 2, 6);
        Check.faults("IF 1\n;", 7, 2, 6);
        bad("IF 0`", 7);
        bad("IF 1\nELSE`", 7);
        bad("IF 0\nELSE`", 7);
        bad("IF 1\nIF 1\nENDIF`", 7);
        bad("IF 0\nIF 0\nENDIF`", 7);
        bad("IF 0\nX: ENDIF?\nIF 0`", 7);
        bad("IF 0\n?`", 7);
        bad("IF 1\nDB 300`", 7);
        bad("IF 1\nDB X`", 7);
        bad("IF 1\nDB 1/0 `", 7);
        good("IF 1\nENDIF", "");
        good("IF 1\nENDIF\n", "");
        good("IF 0\nENDIF ?", "");
        Check.holds(TERMS, "7 of the last line: what stands before it comes first, in it what has the lower place");
        bad("IF 1\n`FOO", 6);
        bad("IF 1\nNOP`?", 1);
        bad("IF 1\n`X X\n", 6);
        bad("IF 1\nORG `X", 4);
        bad("IF 1\nORG `-1", 5);
        bad("`FOO\nIF 1", 6);
        bad("IF 1\nENDIF `?", 1);
        bad("IF 1\nIF `?", 1);
        Check.holds(TERMS, "7 at the end of SOURCE: of one place the lesser");
        bad("IF 1\nDB`", 2);
        bad("IF 1\nIF`", 2);
        bad("IF 1\nLD A,`", 2);
        Check.faults("IF 1\nDB\n", 2, 2, 7);
    }

    /** What just fits before the end, and what goes one octet beyond. */
    private static void fits(String line, int size) {
        OpcodeForge forge = Check.fed("ORG " + (65536 - size) + "\n" + line);
        Check.same("up to the end: " + line, forge.forge(), size);
        Check.same("behind it: " + line, forge.told(5), 65536);
        if (size > 1) {
            bad("ORG " + (65537 - size) + "\n`" + line, 8);
            bad("ORG " + (65537 - size) + "\nX: `" + line + " ; x", 8);
            bad("ORG 65535\n`" + line, 8);
        }
        bad("ORG 65535\nNOP\n`" + line, 8);
    }

    private static void beyondMemory() {
        Check.holds(TERMS, "8 (at the word) octets would go beyond 65535");
        fits("NOP", 1);
        fits("LD A,5", 2);
        fits("JR @", 2);
        fits("SET 0,A", 2);
        fits("NEG", 2);
        fits("LD HL,5", 3);
        fits("INC (IX+5)", 3);
        fits("LD IX,5", 4);
        fits("LD BC,(5)", 4);
        fits("LD (IX+5),6", 4);
        fits("RLC (IX)", 4);
        fits("DB 1", 1);
        fits("DB 1,2,3,4,5", 5);
        fits("DB \"a\"", 1);
        fits("DB \"abc\",1,\"de\"", 6);
        fits("DW 1", 2);
        fits("DW 1,2,3", 6);
        fits("DS 1", 1);
        fits("DS 2,5", 2);
        fits("DS 65535", 65535);
        Check.holds(TERMS, "8: where no octet comes there is none beyond");
        for (String line : new String[] {"DS 0", "DS 0,5", "DB \"\"", "X:", "X EQU 5", "IF 0\nNOP\nENDIF", ";", "ORG 65535\nNOP"}) {
            OpcodeForge forge = Check.fed("ORG 65535\nNOP\n" + line);
            Check.same("no octet beyond: " + line, forge.forge() > 0 ? 1 : 0, 1);
        }
        Check.holds(TERMS, "8 (none of that statement is put)");
        OpcodeForge forge = Check.fed("ORG 65533\nDB 1,2,3,4");
        forge.put(65535, 9);
        Check.same("beyond", forge.forge(), -18);
        Check.same("none is put", Check.octetsAt(forge, 65533, 4), "0 0 9 0");
    }

    private static void tooManyLines() {
        Check.holds(TERMS, "9 the 301st line (at its beginning, ahead of any other at that place; of the first PASS)");
        String lines = "\n".repeat(300);
        good(lines, "");
        for (String line : new String[] {"\n", " ", ";", "NOP", "?", "5", "X:", "A:", "FOO", "ELSE", "ENDIF", "IF 1", "DB X", "  ?", "\n\n\n"}) {
            bad(lines + "`" + line, 9);
            bad("IF 0" + lines + "`" + line, 9);
            bad("IF 1" + lines + "`" + line, 9);
        }
        bad("\n".repeat(299) + "`?\n ", 1);
        bad("\n".repeat(299) + "NOP\n` ", 9);
        bad("DB X,300" + lines + "` ", 9);
        bad("DB `X,300" + lines, 4);
    }

    private static void firstLine() {
        Check.holds(TERMS, "the first line that has one");
        bad("`FOO\n?", 6);
        bad("NOP `?\nFOO", 1);
        bad("NOP\nDB `?\n?\n5", 1);
        bad("ORG `X\n?", 4);
        bad("X:\n`X:\n?", 3);
        bad("DB `X\nDB 300", 4);
        bad("DB `300\nDB X", 5);
    }

    private static void firstPlace() {
        Check.holds(TERMS, "in it the first of these by place (of the token)");
        bad("DB `X,300", 4);
        bad("DB `300,X", 5);
        bad("DB 1`/0,X,300", 5);
        bad("DB `X,1/0", 4);
        bad("DB 1,1`/0,300", 5);
        bad("LD (IX+`X),300", 4);
        bad("LD (IX+`128),X", 5);
        bad("LD (IX+1),`X", 4);
        bad("BIT `8,(IX+X)", 5);
        bad("BIT `8,(IX+128)", 5);
        bad("BIT 7,(IX+`128)", 5);
        bad("ORG `X ?", 4);
        bad("ORG `-1 ?", 5);
        bad("ORG 1`/0 ?", 5);
        bad("ORG `X 5", 4);
        bad("DS `X,?", 4);
        bad("DS `-1,?", 5);
        bad("IF `X ?", 4);
        bad("Y EQU `X ?", 4);
        bad("DS 1,X `?", 1);
        bad("DB X `?", 1);
        bad("DB X,300,1/0 `5", 2);
    }

    private static void samePlace() {
        Check.holds(TERMS, "of one place the lesser");
        bad("`EQU EQU 5", 3);
        bad("IF 1\nDB`", 2);
        bad("IF 1\nDB 1,`", 2);
        bad("\n".repeat(300) + "`?", 9);
    }

    private static void firstPass() {
        Check.holds(TERMS, "first those of the first PASS in all lines, then of the second");
        bad("DB X\nNOP `?", 1);
        bad("DB 300\nDB 1 `5", 2);
        bad("DB 1/0\nY:\n`Y:", 3);
        bad("LD A,X\n`FOO", 6);
        bad("LD A,300\n`NOP 5", 6);
        bad("JR 1000\n`ELSE", 7);
        bad("DB 300\nIF 1`", 7);
        bad("DB 300\nORG 65535\n`DW 1", 8);
        bad("DB 300" + "\n".repeat(300) + "` ", 9);
        bad("DB 300\nORG `X", 4);
        bad("DB X\nORG `-1", 5);
        bad("DS 1,300\nDS `-1", 5);
        bad("DS 1,X\nIF 1`/0", 5);
        Check.holds(TERMS, "(of the first PASS, in one line, too)");
        bad("DS 1,X `5", 2);
        bad("ORG 65535\n`DB X,300,1/0", 8);
        bad("ORG 65535\n`LD HL,X", 8);
        bad("ORG 65535\n`DS 2,X", 8);
        bad("`NOP X", 6);
        bad("`LD B,(X)", 6);
        bad("`RST (1/0)", 6);
    }

    private static void readNoFurther() {
        Check.holds(TERMS, "A line is read no further behind 1, 2, 3, 7, 9, or a word that is none");
        bad("DB 1,`?,5 5", 1);
        bad("LD `?,HL", 1);
        bad("ORG 65535\nDB 1,2,`?", 1);
        bad("DB 1,`,?", 2);
        bad("LD `,?", 2);
        bad("NOP 5 `5 ?", 2);
        bad("ORG 65535\nDW 1 `5 ?", 2);
        bad("ORG 65535\nDS 10 `5", 2);
        bad("`A: ?", 3);
        bad("X:\n`X: FOO ?", 3);
        bad("`HL EQU ?", 3);
        bad("X:\n`X EQU Y", 3);
        bad("`ELSE ?", 7);
        bad("`ENDIF 5", 7);
        bad("IF 1\n".repeat(8) + "`IF ?", 7);
        bad("IF 1\n".repeat(8) + "`IF X", 7);
        bad("`FOO ?", 6);
        bad("`FOO 5 5", 6);
        bad("`FOO X", 6);
        bad("`A ?", 6);
        bad("X:`FOO ?", 6);
        bad("X:\n`X ?", 6);
    }

    private static void readToTheEnd() {
        Check.holds(TERMS, "6 of operands, and 8, are of lines that are read to their end");
        bad("`NOP 5", 6);
        bad("NOP 5`?", 1);
        bad("NOP 5`:", 2);
        bad("NOP `)", 2);
        bad("NOP 5,`", 2);
        bad("NOP 5,5`,", 2);
        bad("`LD B,HL", 6);
        bad("LD B,`HL ?", 2);
        bad("LD (5),5 `?", 1);
        bad("`LD (5),5", 6);
        bad("ORG 65535\n`DW 5", 8);
        bad("ORG 65535\nDW 5`?", 1);
        bad("ORG 65535\nDW 5`:", 2);
        bad("ORG 65535\nDW 5,`", 2);
        bad("ORG 65535\nLD HL,`", 2);
        bad("ORG 65535\nLD HL,5 `5", 2);
        bad("ORG 65535\nDS 10,`", 2);
        bad("ORG 65535\n`LD HL,A", 6);
        Check.holds(TERMS, "8: DS has octets where its first is known and in its range alone");
        bad("ORG 65535\nDS `X", 4);
        bad("ORG 65535\nDS `-1", 5);
        bad("ORG 65535\nDS 5`/0", 5);
        bad("ORG 2\nDS `65535+1", 5);
        bad("DS `65535+2", 5);
    }

    private static void secondPass() {
        Check.holds(TERMS, "Of the first PASS are 1, 2, 3, 6, 7, and 4, 5 of what must be known then; the others 4, 5 of the second");
        bad("DB `X\nLD A,300", 4);
        bad("DB `300\nLD A,X", 5);
        bad("NOP\nLD A,1`/0\nDB X", 5);
        bad("LD A,X\nY EQU `Q\nX:", 4);
        bad("LD A,300\nORG 1`/0", 5);
        bad("DB 1\nDB 2,`256", 5);
        bad("DB X\nX EQU `Y", 4);
        bad("JR `X\nDS 128\nX:", 5);
        good("JR X\nDS 127\nX:", "24 127 " + "0 ".repeat(127));
    }
}
