/** Promises 3 to 6 (forge, told, label, labelSign) where SOURCE has no FAULT. */
public final class ForgeTest {
    public static void main(String[] args) {
        tokens();
        expressions();
        numbersAndRanges();
        statements();
        conditionals();
        labels();
        told();
        memoryStays();
        deepExpressions();
        againBehindFaults();
        Check.end("ForgeTest");
    }

    private static void value(String exp, int due) {
        OpcodeForge forge = Check.fed("X EQU " + exp);
        Check.same("forge of " + exp, forge.forge(), 0);
        Check.same(exp, forge.label(0), due);
    }

    private static void tokens() {
        value("0", 0);
        value("65535", 65535);
        value("00000000000065535", 65535);
        value("$FFFF", 65535);
        value("$ffff", 65535);
        value("$00012aB", 0x12AB);
        value("%1111111111111111", 65535);
        value("%101", 5);
        value("'A'", 65);
        value("'a'", 97);
        value("' '", 32);
        value("'~'", 126);
        value("'''", 39);
        value("';'", 59);
        value("'\"'", 34);
        value("1;'", 1);
        value("1 ; anything \200\377 ?", 1);
        value("\t1\r", 1);
        value("1+'1'", 50);
        Check.forges("  ld\ta , 5 ; x\r\n\t\n;\n _a1 : DB _A1 , \"aB;'\" , 'z'", 0, "62 5 2 97 66 59 39 122");
        Check.forges("DB \"\",\"~ \"", 0, "126 32");
        Check.forges("ex af,Af'\nEX AF , AF';c", 0, "8 8");
        Check.forges("DB 5*2<<1", 0, "20");
        Check.forges("A2345678901_:DW A2345678901_,1", 0, "0 0 1 0");
    }

    private static void expressions() {
        value("1+2*3", 7);
        value("(1+2)*3", 9);
        value("10-4-3", 3);
        value("100/10/5", 2);
        value("100/(10/5)", 50);
        value("0-7/2", -3);
        value("(0-7)/2", -3);
        value("7/(0-2)", -3);
        value("-7/2", -3);
        value("1|6^3&5", 1 | 6 ^ 3 & 5);
        value("6^3|8", 6 ^ 3 | 8);
        value("12&10<<1", 12 & 10 << 1);
        value("1<<2+1", 8);
        value("1<<2<<3", 32);
        value("$8000<<16>>31", -1);
        value("256>>4>>1", 8);
        value("1<<32", 1);
        value("1<<33", 2);
        value("4>>33", 2);
        value("1<<-1", Integer.MIN_VALUE);
        value("-1>>-1", -1);
        value("~0", -1);
        value("~~5", 5);
        value("--5", 5);
        value("-~5", 6);
        value("~-5", 4);
        value("2*-3", -6);
        value("2--3", 5);
        value("-2*-3", 6);
        value("65535*65535", 65535 * 65535);
        value("65535*65535*65535", 65535 * 65535 * 65535);
        value("$8000*65535+$8000", Integer.MIN_VALUE);
        value("($8000<<16)/-1", Integer.MIN_VALUE);
        value("-($8000<<16)", Integer.MIN_VALUE);
        value("($8000<<16)-1", Integer.MAX_VALUE);
        value("((((5))))", 5);
        value("8/3*3", 6);
        value("1+2<<1+1", 12);
        value("7&3^1|8", 7 & 3 ^ 1 | 8);
        value("@", 0);
        Check.forges("ORG 10\nDB @,@,@+1,-@\nDW @\nDS 2,@\nLD HL,@", 10, "10 10 11 246 14 0 16 16 33 18 0");
    }

    private static void numbersAndRanges() {
        Check.forges("DB -128,255,-1\nDW -32768,65535,-1,$1234", 0, "128 255 255 0 128 255 255 255 255 52 18");
        Check.forges("LD A,-128\nLD A,255\nLD HL,-32768\nLD HL,65535", 0, "62 128 62 255 33 0 128 33 255 255");
        Check.forges("LD (IX+127),1\nLD (IX-128),2\nLD (IX+-1),3\nLD (IX-(-5)),4\nLD (IX-1+2),5", 0,
            "221 54 127 1 221 54 128 2 221 54 255 3 221 54 5 4 221 54 253 5");
        Check.forges("LD (IX),1\nINC (IY)\nRLC (IX)\nJP (IX)\nJP (IY)\nJP (HL)", 0,
            "221 54 0 1 253 52 0 221 203 0 6 221 233 253 233 233");
        Check.forges("LD (IX+5),7\nLD (IX),8\nSET 3,(IY-5)\nRES 2,(IY)\nRL (IX+9)\nRL (IX)", 0,
            "221 54 5 7 221 54 0 8 253 203 251 222 253 203 0 150 221 203 9 22 221 203 0 22");
        Check.forges("BIT 0,A\nBIT 7,(HL)\nRES 3,(IX+1)\nSET 7,(IY-1)", 0, "203 71 203 126 221 203 1 158 253 203 255 254");
        Check.forges("RST 0\nRST 8\nRST 56\nIM 0\nIM 1\nIM 2", 0, "199 207 255 237 70 237 86 237 94");
        Check.forges("OUT (-128),A\nIN A,(255)\nOUT ((3)),A", 0, "211 128 219 255 211 3");
        Check.forges("ORG 1000\nX:JR X\nJR @+129\nDJNZ @-126\nJR NZ,@\nJR C,Y\nY:", 1000,
            "24 254 24 127 16 128 32 254 56 0");
        Check.forges("ORG 65000\nJR 65129\nJR 64876", 65000, "24 127 24 128");
        Check.forges("JR 65535\nJR -3\nDJNZ 65535+4", 0, "24 253 24 249 16 253");
        Check.forges("ORG 65530\nJR 2", 65530, "24 6");
        Check.forges("LD A,(5)\nLD A,(5)+1\nLD (5),A\nLD HL,(-1)\nLD BC,(7)\nLD (7),SP\nLD A,((5)+1)\nLD HL,(1)*(2)", 0,
            "58 5 0 62 6 50 5 0 42 255 255 237 75 7 0 237 115 7 0 58 6 0 33 2 0");
    }

    private static void statements() {
        Check.forges("", 0, "");
        Check.forges("\n\n;\n", 0, "");
        Check.forges("ORG 5\nDB 1\nORG 3\nDB 2\nORG 5", 3, "2 0");
        Check.forges("X: ORG 7\nDB X,Y\nY: ORG Y+1", 7, "0 9");
        Check.forges("X EQU 3\nORG X\nDS X\nDS 2,-1\nDS 0,300-299\nDB @", 3, "0 0 0 255 255 8");
        Check.forges("DB Y,X\nX EQU 7\nY: DW X,Y", 0, "2 7 7 0 2 0");
        Check.forges("X EQU -5\nDB X+5", 0, "0");
        Check.forges("ORG 65535\nNOP\nX:\n DS X-65535-1\nDB \"\"", 65535, "0");
        Check.forges("W: X EQU W+1\nDB X", 0, "1");
        Check.forges("LD HL,X\nX:RET", 0, "33 3 0 201");
        Check.forges("ORG 65530\nDS 5,7\nDB 8", 65530, "7 7 7 7 7 8");
        OpcodeForge forge = Check.fed("ORG 1\nDS 65535,7");
        Check.same("DS up to the end", forge.forge(), 65535);
        Check.same("the last octet", forge.octet(65535), 7);
        Check.same("the first octet", forge.octet(0), 0);
    }

    private static void conditionals() {
        Check.forges("IF 1\nDB 1\nELSE\nDB 2\nENDIF\nDB 3", 0, "1 3");
        Check.forges("IF 0\nDB 1\nELSE\nDB 2\nENDIF\nDB 3", 0, "2 3");
        Check.forges("IF -1\nDB 1\nENDIF\nIF 0\nDB 2\nENDIF\nDB 3", 0, "1 3");
        Check.forges("X: IF X\nDB 1\nY: ELSE\nDB 2\nW: ENDIF\nDB W", 0, "2 1");
        Check.forges("IF 0\nIF 1\nDB 1\nELSE\nDB 2\nENDIF\nELSE\nIF 1\nDB 3\nELSE\nDB 4\nENDIF\nENDIF", 0, "3");
        Check.forges("IF 1\nIF 0\nDB 1\nELSE\nDB 2\nENDIF\nELSE\nIF 1\nDB 3\nENDIF\nENDIF", 0, "2");
        Check.forges("IF 0\n?\nX:X:X:\nLD 5 5\n5 ENDIF\nAF' : ENDIF\n: ENDIF\n\"ENDIF\nENDIFS\nENDIF_\nX ENDIF\nDB 9\nENDIF\nDB 1", 0, "1");
        Check.forges("IF 0\n a234567890123456 : else ?\nDB 1\nEndIf\nDB 2", 0, "1 2");
        Check.forges("IF 0\n a234567890123456 : 5\nDB 1\nIF: EndIf\nDB 2", 0, "2");
        Check.forges("IF 0\nELSE ? 77777\nDB 1\nENDIF\nDB 2", 0, "1 2");
        Check.forges("IF 0\nIF'\nENDIF'\nENDIF;\nDB 2", 0, "2");
        Check.forges("IF 0\nIF ? ENDIF\nENDIF:\nENDIF 5\nX:ENDIF\nDB 2", 0, "2");
        Check.forges("IF 0\nAF : ENDIF\nDB 2", 0, "2");
        Check.forges("IF 0\n1234567890123ENDIF\nENDIF5\n_ENDIF\nX::ENDIF\nX: 5\nENDIF\nDB 2", 0, "2");
        Check.forges("IF 1\nIF 1\nIF 1\nIF 1\nIF 1\nIF 1\nIF 1\nIF 1\nDB 1\nENDIF\nIF 0\nENDIF\nENDIF\nENDIF\nENDIF\n"
            + "ENDIF\nENDIF\nENDIF\nENDIF", 0, "1");
        Check.forges("IF 0\nX: DB 1\nELSE\nX: DB X\nENDIF", 0, "0");
        Check.forges("IF Y\nELSE\nENDIF\nDB 1\n".replace("Y", "0"), 0, "1");
        Check.forges("IF 0\nIF\nENDIF\nELSE: ENDIF\nDB 1", 0, "1");
    }

    private static void labels() {
        OpcodeForge forge = Check.fed("ab_9: NOP\nX EQU 65536*65535\nlater: twice EQU later\nIF 0\nno:\nENDIF\nZ:");
        Check.same("forge", forge.forge(), -11);
        forge = Check.fed("ab_9: NOP\nX EQU 65535*65535\nlater: twice EQU later\nIF 0\nno:\nENDIF\nZ_:");
        Check.same("forge", forge.forge(), 1);
        Check.same("told(3)", forge.told(3), 5);
        String[] names = {"AB_9", "X", "LATER", "TWICE", "Z_", ""};
        int[] values = {0, 65535 * 65535, 1, 1, 1, 0};
        for (int i = 0; i < 6; i++) {
            Check.same("name " + i, Check.labelName(forge, i), names[i]);
            Check.same("value " + i, forge.label(i), values[i]);
        }
        for (int k : new int[] {-1, 4, 12, Integer.MAX_VALUE, Integer.MIN_VALUE}) {
            Check.same("labelSign(0, " + k + ")", forge.labelSign(0, k), -1);
        }
        for (int i : new int[] {-1, 5, 200, Integer.MAX_VALUE, Integer.MIN_VALUE}) {
            Check.same("labelSign(" + i + ", 0)", forge.labelSign(i, 0), -1);
            Check.same("label(" + i + ")", forge.label(i), 0);
        }
        twoHundred();
        longNames();
    }

    private static void twoHundred() {
        StringBuilder text = new StringBuilder();
        for (int i = 0; i < 200; i++) {
            text.append(i % 2 == 0 ? "L" + i + ":" : "L" + i + " EQU " + i + "\n");
        }
        OpcodeForge forge = Check.fed(text.toString());
        Check.same("200 LABELS", forge.forge(), 0);
        Check.same("told(3) of 200", forge.told(3), 200);
        Check.same("the last one", Check.labelName(forge, 199), "L199");
        Check.same("its value", forge.label(199), 199);
        Check.feedMore(forge, "Y:");
        Check.same("the 201st", forge.forge(), -13);
        Check.same("its place", forge.told(1), text.length());
        Check.same("told(3) stays", forge.told(3), 200);
        forge.feed(0, 0);
        Check.feedMore(forge, "ORG 5\nX:");
        Check.same("one LABEL", forge.forge(), 0);
        Check.same("told(3) of one", forge.told(3), 1);
        Check.same("LABELS of one", forge.label(0) * 100 + forge.label(1) * 10 + forge.label(2), 500);
        Check.same("no name behind it", forge.labelSign(1, 0), -1);
        forge.feed(0, 0);
        Check.same("no LABEL", forge.forge(), 0);
        Check.same("told(3) of none", forge.told(3), 0);
        Check.same("label of none", forge.label(199), 0);
    }

    private static void longNames() {
        OpcodeForge forge = Check.fed("zzzzzzzzzzzz:___________9:a:");
        Check.same("two names in a line", forge.forge(), -16);
        forge = Check.fed("zzzzzzzzzzzz:\n____________:\n_999999999_9:\naf_:\nA0Z_9:");
        Check.same("names of 12", forge.forge(), 0);
        String[] names = {"ZZZZZZZZZZZZ", "____________", "_999999999_9", "AF_", "A0Z_9"};
        for (int i = 0; i < names.length; i++) {
            Check.same("long name " + i, Check.labelName(forge, i), names[i]);
        }
    }

    private static void tells(String text, int lines, int labels, int first, int behind) {
        OpcodeForge forge = Check.fed(text);
        Check.same("forges well: " + text, forge.forge() >= 0 ? 1 : 0, 1);
        Check.same("lines of " + text, forge.told(2), lines);
        Check.same("labels of " + text, forge.told(3), labels);
        Check.same("first of " + text, forge.told(4), first);
        Check.same("behind of " + text, forge.told(5), behind);
    }

    private static void told() {
        tells("", 0, 0, 0, 0);
        tells("\n", 1, 0, 0, 0);
        tells("NOP", 1, 0, 0, 1);
        tells("NOP\n", 1, 0, 0, 1);
        tells("NOP\n ", 2, 0, 0, 1);
        tells("ORG 9", 1, 0, 0, 9);
        tells("X:ORG 9\nDS 0\nDB \"\"\nDS 2\nORG 3\nNOP\nORG 8", 7, 1, 9, 8);
        tells("ORG 65535\nNOP", 2, 0, 65535, 65536);
        tells("ORG 9\nDW 1\nORG 1\nDW 1", 4, 0, 9, 3);
        for (int what : new int[] {-1, 6, Integer.MAX_VALUE, Integer.MIN_VALUE}) {
            Check.same("told(" + what + ")", new OpcodeForge().told(what), -2);
        }
        StringBuilder text = new StringBuilder();
        for (int i = 0; i < 300; i++) {
            text.append(i == 299 ? "NOP" : "\n");
        }
        tells(text.toString(), 300, 0, 0, 1);
        tells(text + "\n", 300, 0, 0, 1);
    }

    /** With a FAULT MEMORY, LABELS and what was told of the latest one without stay. */
    private static void memoryStays() {
        OpcodeForge forge = Check.fed("ORG 3\nX:DB 1,2\nY:");
        Check.same("first forge", forge.forge(), 2);
        forge.feed(0, 0);
        Check.feedMore(forge, "ORG 3\nQ:DB 7,8\nDB 1/0");
        Check.same("forge with a FAULT", forge.forge(), -15);
        Check.same("line", forge.told(0), 3);
        Check.same("place", forge.told(1), 19);
        Check.same("MEMORY stays", Check.octetsAt(forge, 2, 4), "0 1 2 0");
        Check.same("LABELS stay", Check.labelName(forge, 0) + Check.labelName(forge, 1) + Check.labelName(forge, 2), "XY");
        Check.same("VALUES stay", forge.label(0) * 10 + forge.label(1), 35);
        Check.same("told(2)", forge.told(2), 3);
        Check.same("told(3)", forge.told(3), 2);
        Check.same("told(4)", forge.told(4), 3);
        Check.same("told(5)", forge.told(5), 5);
        Check.same("SOURCE stays", Check.sourceOf(forge), "ORG 3\nQ:DB 7,8\nDB 1/0");
        forge.feed(0, 0);
        Check.feedMore(forge, "ORG 4\nDB 9");
        Check.same("forge again", forge.forge(), 1);
        Check.same("told(0) is 0 again", forge.told(0), 0);
        Check.same("told(1) is 0 again", forge.told(1), 0);
        Check.same("MEMORY has what was put, and the rest", Check.octetsAt(forge, 2, 4), "0 1 9 0");
        Check.same("LABELS are gone", forge.labelSign(0, 0), -1);
        Check.same("the same again", forge.forge(), 1);
        forge.feed(0, 0);
        Check.feedMore(forge, "ORG 7");
        Check.same("nothing is put", forge.forge(), 0);
        Check.same("told(4) of nothing", forge.told(4), 0);
        Check.same("told(5) of nothing", forge.told(5), 7);
    }

    private static void deepExpressions() {
        value("(".repeat(40) + "7" + ")".repeat(40), 7);
        value("-".repeat(40) + "7", 7);
        value("~-(".repeat(13) + "-7" + ")".repeat(13), -20);
        value("-(".repeat(20) + "3" + ")".repeat(20) + "+" + "(".repeat(40) + "4" + ")".repeat(40), 7);
        String row = "1|2^3&1<<2+1*(";
        value(row.repeat(40) + "1" + ")".repeat(40), deepValue(40));
        value("-1".repeat(200), -200);
        value("1" + "+1".repeat(2000), 2001);
        Check.forges("DW-1" + "+1".repeat(2998), 0, "181 11");
        Check.forges("DB\"" + "x".repeat(5996) + "\"", 0, "120 ".repeat(5996));
        Check.forges("DB 0" + ",0".repeat(2998), 0, "0 ".repeat(2999));
        Check.forges("LD A,(" + "(".repeat(40) + "7" + ")".repeat(40) + ")", 0, "58 7 0");
        Check.forges("LD (IX+" + "(".repeat(40) + "7" + ")".repeat(40) + "),1", 0, "221 54 7 1");
    }

    /** A forge() behind one with a FAULT is as on a new object. */
    private static void againBehindFaults() {
        String[] broken = {"DB " + "(".repeat(40), "DB " + "-".repeat(40), "DB 1|2^3&4<<5+6*", "IF 1\nIF 0\nELSE", "IF 0",
            "X: Y: NOP", "LD (IX-5),(IX-", "ORG 9\nDB 1,?", "X EQU 1/0", "\n".repeat(301), "DB -?", "DB 3*(-(", "DB ~?",
            "DB 1,-?", "DB " + "1|2^3&1<<2+1*(".repeat(40) + "?"};
        String good = "Y EQU 5\nIF Y-5\nENDIF\nDB " + "(".repeat(40) + "7" + ")".repeat(40) + "," + "-".repeat(40) + "7\nX: LD (IX+1),X\n"
            + "V EQU " + "1|2^3&1<<2+1*(".repeat(40) + "1" + ")".repeat(40);
        for (String text : broken) {
            OpcodeForge forge = Check.fed(text);
            Check.same("a FAULT in " + text, forge.forge() < 0 ? 1 : 0, 1);
            forge.feed(0, 0);
            Check.feedMore(forge, good);
            Check.same("forge behind " + text, forge.forge(), 6);
            Check.same("octets behind " + text, Check.octetsAt(forge, 0, 7), "7 7 221 54 1 2 0");
            Check.same("told(0) behind " + text, forge.told(0) + forge.told(1), 0);
            Check.same("told(2) behind " + text, forge.told(2) * 100 + forge.told(3) * 10 + forge.told(4), 630);
            Check.same("V behind " + text, forge.label(2), deepValue(40));
            Check.same("LABELS behind " + text, forge.label(0) * 100 + forge.labelSign(0, 0), 589);
        }
    }

    private static int deepValue(int rows) {
        int value = 1;
        for (int i = 0; i < rows; i++) {
            value = 1 | 2 ^ 3 & 1 << 2 + 1 * value;
        }
        return value;
    }
}
