/**
 * The edges of "Terms", 2 SOURCE, sentence by sentence: LINES, TOKENS, VALUES, OPERANDS, ranges, IF, PASSES (promises 3 to 6).
 * Those of the FAULTS and of their order stand in FaultEdgesTest. In a text the mark ` stands ahead of the FAULT's place.
 */
public final class SourceEdgesTest {
    private static final String TERMS = "Terms 2";

    public static void main(String[] args) {
        lines();
        blanks();
        capitals();
        names();
        numbers();
        quoted();
        texts();
        whereTokensBegin();
        statements();
        values();
        here();
        depth();
        places();
        alone();
        twoOperands();
        reserved();
        targets();
        octetRanges();
        wordRanges();
        smallRanges();
        originAndSpace();
        conditions();
        notDone();
        depthOfIfs();
        passes();
        labels();
        Check.end("SourceEdgesTest");
    }

    private static void good(String text, String octets) {
        Check.forges(text, 0, octets);
    }

    private static void bad(String marked, int code) {
        Check.faults(marked, code);
    }

    private static void value(String exp, int due) {
        OpcodeForge forge = Check.fed("V EQU " + exp);
        Check.same("forge of " + exp, forge.forge(), 0);
        Check.same(exp, forge.label(0), due);
    }

    private static void lines() {
        Check.holds(TERMS, "LINES, from 1 on, end with a byte 10 (the last one need not)");
        good("", "");
        good("\n", "");
        good("NOP", "0");
        good("NOP\n", "0");
        good("NOP\nHALT", "0 118");
        good("NOP\n\n\nHALT\n", "0 118");
        bad("`?", 1);
        bad("\n`?", 1);
        bad("\n\n`?\n", 1);
        good("LD A,5;\nLD A,6", "62 5 62 6");
        bad("LD A,`\n5", 2);
        bad("DB `\"a\nb\"", 1);
        Check.holds(TERMS, "300 at most");
        String lines = "\n".repeat(299);
        good(lines + "HALT", "118");
        good(lines + "HALT\n", "118");
        bad(lines + "HALT\n` ", 9);
        bad(lines + "HALT\n`\n", 9);
        good(lines + "\n", "");
        bad(lines + "\n`;", 9);
        good("NOP\n".repeat(300), "0 ".repeat(300));
        bad("NOP\n".repeat(300) + "`NOP", 9);
        Check.holds(TERMS, "A line: [ LABEL : ] [ statement ] [ ; anything ]");
        good("X:", "");
        good("X:;?", "");
        good("X:HALT;?", "118");
        good("HALT;?", "118");
        good(";\000\001\011\200\377\"'`", "");
        good("HALT;\000\377", "118");
        bad("X:`:HALT", 2);
        bad("X:`Y:HALT", 6);
        bad("`X HALT", 6);
    }

    private static void blanks() {
        Check.holds(TERMS, "Blanks (32, 9, 13) stand between tokens where one likes");
        for (int sign = 0; sign < 256; sign++) {
            boolean blank = sign == 32 || sign == 9 || sign == 13;
            if (blank) {
                String b = "" + (char) sign;
                good(b + "X" + b + ":" + b + "DB" + b + "1" + b + "," + b + "-" + b + "1" + b + ";", "1 255");
                good(b, "");
                good("HALT" + b + b + "\n" + b + b, "118");
            } else if (sign != 10 && sign != ';' && (sign < 32 || sign > 126)) {
                Check.faults("HALT" + (char) sign, 1, 1, 4);
                Check.faults((char) sign + "HALT", 1, 1, 0);
            }
        }
        good("LD A,( IX + 5 )", "221 126 5");
        good("X :HALT", "118");
        good("V\tEQU\r5\nDB V", "5");
        bad("`HA LT", 6);
        bad("DB 1`<  <1", 1);
        bad("DB `$ F", 1);
        bad("DB `% 1", 1);
        bad("DB 6 `5", 2);
        bad("EX AF,`AF '", 2);
        bad("`DB1", 6);
    }

    private static void capitals() {
        Check.holds(TERMS, "Letters are taken as capitals but within ' ' and \" \"");
        good("ld a,'a'", "62 97");
        good("Ld A,'A'", "62 65");
        good("db \"aA\",$aB,$Ab", "97 65 171 171");
        good("x: db X+1,x+1", "1 1");
        good("ex af,aF'", "8");
        good("if 1\nhalt\nelse\nnop\nendif", "118");
        good("IF 0\nhalt\nElse\nnop\neNDif", "0");
        bad("x:\n`X:", 3);
        bad("`hl:", 3);
    }

    private static void names() {
        Check.holds(TERMS, "NAMES (a letter or _ , then these and digits; 12 signs at most");
        good("_:DB _", "0");
        good("_9:DB _9", "0");
        good("q:DB Q", "0");
        good("A23456789012:DB A23456789012", "0");
        bad("`A234567890123:", 1);
        bad("DB `A234567890123", 1);
        bad("`NOP4567890123", 1);
        bad("X: `____________1 EQU 5", 1);
        good("____________ EQU 5\nDB ____________", "5");
        bad("`9A:", 2);
        bad("DB 9`A", 2);
        bad("`A.B:", 6);
        bad("`Q.B:", 6);
        bad("`AB'", 6);
        bad("DB 1+A23456789012+`", 2);
        bad("DB 1+`A23456789012", 4);
    }

    private static void numbers() {
        Check.holds(TERMS, "NUMBERS (digits; $ and then digits, A .. F; % and then 0, 1; each 65535 at most");
        good("DW 65535,$FFFF,%1111111111111111", "255 255 255 255 255 255");
        good("DW 000065535,$0000FFFF,%00001111111111111111", "255 255 255 255 255 255");
        good("DB 0,$0,%0,00,$00,%00", "0 0 0 0 0 0");
        bad("DW `65536", 1);
        bad("DW `065536", 1);
        bad("DW `99999", 1);
        bad("DW `4294967296", 1);
        bad("DW `4294967297", 1);
        bad("DW `18446744073709551617", 1);
        bad("DW `$10000", 1);
        bad("DW `$FFFFF", 1);
        bad("DW `$100000000", 1);
        bad("DW `%10000000000000000", 1);
        bad("DW `%11111111111111111", 1);
        bad("DW 1,`65536,?", 1);
        good("DW $9,$A,$F", "9 0 10 0 15 0");
        bad("DW `$", 1);
        bad("DW `$G", 1);
        bad("DW $F`G", 2);
        bad("DW $1`_", 2);
        bad("DW `$_", 1);
        bad("DW 1`_", 2);
        bad("DW `$$1", 1);
        bad("DW `%", 1);
        bad("DW `%2", 1);
        bad("DW %1`2", 2);
        bad("DW %10`A", 2);
        bad("DW 9`A", 2);
        bad("DW 0`X10", 2);
        bad("DW 1`$1", 2);
        bad("DW 1`%1", 2);
        allNumbers();
    }

    /** Each NUMBER right behind a word, as a number that stands for a NAME inside the program could be taken for one. */
    private static void allNumbers() {
        for (int from = 0; from < 65536; from += 64) {
            StringBuilder text = new StringBuilder();
            for (int n = from; n < from + 64; n++) {
                text.append("DW ").append(n).append('\n');
            }
            OpcodeForge forge = Check.fed(text.toString());
            Check.same("forge of 64 numbers from " + from, forge.forge(), 128);
            for (int i = 0; i < 64; i++) {
                Check.same("DW " + (from + i), forge.octet(2 * i) + 256 * forge.octet(2 * i + 1), from + i);
            }
        }
    }

    private static void quoted() {
        Check.holds(TERMS, "'c' with any sign from 32 to 126");
        for (int sign = 0; sign < 256; sign++) {
            String text = "DB '" + (char) sign + "'";
            if (sign >= 32 && sign <= 126) {
                good(text, "" + sign);
            } else {
                Check.faults(text, 1, 1, 3);
            }
        }
        bad("DB `''", 1);
        bad("DB `'", 1);
        bad("DB `'a", 1);
        bad("DB `'ab'", 1);
        good("DB '''", "39");
        bad("DB ''' `'", 1);
        bad("DB 'a'`'", 1);
        good("DB ';' ; '", "59");
    }

    private static void texts() {
        Check.holds(TERMS, "TEXTS (\" then signs 32 to 126 but \" , then \" )");
        for (int sign = 0; sign < 256; sign++) {
            String text = "DB \"" + (char) sign + "\"";
            if (sign == '"') {
                Check.faults(text, 1, 1, 5);
            } else if (sign >= 32 && sign <= 126) {
                good(text, "" + sign);
            } else {
                Check.faults(text, 1, 1, 3);
            }
        }
        good("DB \"\"", "");
        good("DB \"\",\"\"", "");
        good("DB \"a;b'c\"", "97 59 98 39 99");
        bad("DB `\"", 1);
        bad("DB `\"a", 1);
        bad("DB \"a\"`\"", 1);
        bad("DB \"a\"`\"b\"", 2);
        good("DB \"" + "a".repeat(500) + "\"", "97 ".repeat(500));
    }

    private static void whereTokensBegin() {
        Check.holds(TERMS, "TOKENS, as long as can be: ... << >>, and ( ) , : + - * / & | ^ ~ @");
        String binary = "+-*/&|^,";
        String notHere = "():~@_";
        for (int sign = 0; sign < 256; sign++) {
            char c = (char) sign;
            boolean letter = c >= 'A' && c <= 'Z' || c >= 'a' && c <= 'z';
            boolean passes = c == ' ' || c == 9 || c == 13 || c == ';' || c == 10 || c >= '0' && c <= '9';
            String text = "DB 1" + c;
            if (passes) {
                Check.same("forge of " + text, Check.fed(text).forge(), 1);
            } else if (binary.indexOf(c) >= 0) {
                Check.faults(text, 2, 1, 5);
            } else if (letter || notHere.indexOf(c) >= 0) {
                Check.faults(text, 2, 1, 4);
            } else {
                Check.faults(text, 1, 1, 4);
            }
        }
        good("DB 1<<2,8>>2", "4 2");
        bad("DB 1`<2", 1);
        bad("DB 1`>2", 1);
        bad("DB 1<<`<2", 1);
        bad("DB 1>>`>2", 1);
        bad("DB 1<<`<<2", 2);
        bad("DB 1`<>2", 1);
        Check.holds(TERMS, "AF' is one, too");
        good("EX AF,AF'", "8");
        good("EX AF , AF' ;", "8");
        bad("`AF':", 3);
        bad("`AF' EQU 5", 3);
        bad("DB `AF'", 2);
        bad("EX AF,`AF'5", 2);
        bad("DB XAF`'", 1);
        bad("DB AF2`'", 1);
        bad("DB _AF`'", 1);
        for (String name : new String[] {"F", "XY", "FA", "AG", "A_", "A1", "AFA", "AFAF", "_AF", "XAF"}) {
            bad("DB " + name + "`'", 1);
            bad("DB V+" + name + "`'\n" + name + " EQU 5", 1);
        }
        bad("EX AF,`BC'", 2);
        bad("EX `HL',AF", 2);
        bad("EX AF,`AF''", 2);
    }

    private static void statements() {
        Check.holds(TERMS, "ORG exp; NAME EQU exp (the NAME without : )");
        good("ORG 0\nHALT", "118");
        bad("ORG`", 2);
        bad("ORG 1`,2", 2);
        bad("ORG `\"a\"", 2);
        good("V EQU 5\nDB V", "5");
        bad("V EQU`", 2);
        bad("V EQU 5`,6", 2);
        bad("V EQU `\"a\"", 2);
        bad("V: `EQU 5", 6);
        bad("`EQU 5", 6);
        good("W: V EQU 5\nDB V,W", "5 0");
        Check.holds(TERMS, "DB item { , item } (item: exp or TEXT); DW exp { , exp }; DS exp [ , exp ]");
        bad("DB`", 2);
        good("DB 1", "1");
        good("DB 1,\"a\",2", "1 97 2");
        bad("DB 1,`", 2);
        bad("DB `,1", 2);
        bad("DB \"a\"`+1", 2);
        bad("DB 1+`\"a\"", 2);
        bad("DB (`\"a\")", 2);
        bad("DW`", 2);
        good("DW 1,2", "1 0 2 0");
        bad("DW `\"a\"", 2);
        bad("DW 1,`\"a\"", 2);
        bad("DS`", 2);
        good("DS 2\nHALT", "0 0 118");
        good("DS 2,7\nHALT", "7 7 118");
        bad("DS 2,`", 2);
        bad("DS 2,7`,", 2);
        bad("DS `\"a\"", 2);
        bad("DS 2,`\"a\"", 2);
        good("DB " + "9,".repeat(900) + "9", "9 ".repeat(901));
        Check.holds(TERMS, "IF exp; ELSE; ENDIF");
        bad("IF`", 2);
        bad("IF 1`,1\nENDIF", 2);
        bad("IF `\"a\"\nENDIF", 2);
        bad("IF 1\nELSE `1\nENDIF", 2);
        bad("IF 1\nENDIF `1", 2);
    }

    private static void values() {
        Check.holds(TERMS, "VALUES are 32 bits with sign, and wrap");
        String greatest = "($7FFF<<16|$FFFF)";
        String least = "($8000<<16)";
        value(greatest, 2147483647);
        value(greatest + "+1", -2147483648);
        value(least, -2147483648);
        value(least + "-1", 2147483647);
        value("-" + least, -2147483648);
        value("-" + greatest, -2147483647);
        value("~" + greatest, -2147483648);
        value(least + "*-1", -2147483648);
        value(least + "*2", 0);
        value("65535*65535", -131071);
        value("$8000*$8000*2", -2147483648);
        value("$8000*$8000*4", 0);
        Check.holds(TERMS, "/ towards 0");
        value("7/2", 3);
        value("-7/2", -3);
        value("7/-2", -3);
        value("-7/-2", 3);
        value("1/2", 0);
        value("-1/2", 0);
        value("0/5", 0);
        value(least + "/-1", -2147483648);
        value(least + "/1", -2147483648);
        value(greatest + "/-1", -2147483647);
        Check.holds(TERMS, "shifts by the lowest five bits, >> with the sign");
        value("1<<0", 1);
        value("1<<31", -2147483648);
        value("1<<32", 1);
        value("1<<63", -2147483648);
        value("1<<64", 1);
        value("1<<-1", -2147483648);
        value("2<<31", 0);
        value("8>>0", 8);
        value("8>>3", 1);
        value("8>>4", 0);
        value("8>>32", 8);
        value("8>>35", 1);
        value("-1>>31", -1);
        value("-8>>1", -4);
        value("-1>>-1", -1);
        value(greatest + ">>30", 1);
        value(least + ">>31", -1);
        Check.holds(TERMS, "or: xor { | xor }, xor: and { ^ and }, and: shift { & shift }, shift: term { << or >> ... }, ...");
        value("1|3^3", 1);
        value("(1|3)^3", 0);
        value("1^3&2", 3);
        value("(1^3)&2", 2);
        value("6&1<<1", 2);
        value("(6&1)<<1", 0);
        value("1<<1+1", 4);
        value("(1<<1)+1", 3);
        value("1+2*3", 7);
        value("(1+2)*3", 9);
        value("-2*3", -6);
        value("-(2+3)", -5);
        value("-2+3", 1);
        value("~1+1", -1);
        value("~(1+1)", -3);
        value("9-3-2", 4);
        value("9-(3-2)", 8);
        value("24/4/2", 3);
        value("24/4*2", 12);
        value("1<<2>>1<<3", 16);
        value("-~-~1", 3);
    }

    private static void here() {
        Check.holds(TERMS, "@ is the address of the line's statement");
        good("DB @,@,@", "0 0 0");
        good("HALT\nDB @,@+1\nDB @", "118 1 2 3");
        good("HALT\nX:DB @,X", "118 1 1");
        good("LD A,@\nLD A,@", "62 0 62 2");
        good("DS 2,@+5\nDS 2,@+5", "5 5 7 7");
        good("JR @\nJR @", "24 254 24 254");
        Check.forges("ORG 9\nORG @+1\nDB @", 10, "10");
        Check.forges("ORG 9\nV EQU @\nDB V,@", 9, "9 9");
        Check.forges("ORG 9\nIF @-9\nDB 1\nELSE\nDB 2\nENDIF", 9, "2");
        Check.forges("ORG 65535\nDB @-65400\nV EQU @", 65535, "135");
        OpcodeForge forge = Check.fed("ORG 65535\nHALT\nV EQU @\nX:");
        Check.same("behind the last octet", forge.forge(), 1);
        Check.same("@", forge.label(0), 65536);
        Check.same("LABEL", forge.label(1), 65536);
    }

    private static void depth() {
        Check.holds(TERMS, "The 41st of ( ~ - (before a unary) that is open in an exp cannot stand there (2)");
        String open = "(".repeat(40);
        String close = ")".repeat(40);
        value(open + "7" + close, 7);
        bad("V EQU " + open + "`(7" + close + ")", 2);
        bad("V EQU " + open + "`-7" + close, 2);
        bad("V EQU " + open + "`~7" + close, 2);
        value("-".repeat(40) + "7", 7);
        bad("V EQU " + "-".repeat(40) + "`-7", 2);
        bad("V EQU " + "-".repeat(40) + "`(7)", 2);
        value("~".repeat(40) + "7", 7);
        bad("V EQU " + "~".repeat(40) + "`~7", 2);
        value("(-~".repeat(13) + "(7" + ")".repeat(14), 20);
        bad("V EQU " + "(-~".repeat(13) + "(`(7" + ")".repeat(15), 2);
        Check.holds(TERMS, "that is open: one that is closed, or whose unary is read, is so no more");
        value(open + "7" + close + "+" + open + "8" + close, 15);
        value("-".repeat(40) + "7+" + "-".repeat(40) + "8", 15);
        value("-1".repeat(100), -100);
        value("(1)+".repeat(100) + "1", 101);
        value("(".repeat(39) + "-7+-8" + ")".repeat(39), -15);
        value("(".repeat(39) + "(7)+(8)" + ")".repeat(39), 15);
        bad("V EQU (" + open.substring(1) + "7)+(" + "`(8", 2);
        value(open + "7-8" + close, -1);
        bad("V EQU " + open + "7-`-8" + close, 2);
        Check.holds(TERMS, "in an exp: each item, each operand has its own");
        good("DB " + open + "7" + close + "," + open + "8" + close, "7 8");
        good("DS " + open + "2" + close + "," + open + "8" + close, "8 8");
        good("LD (IX+" + open + "7" + close + ")," + open + "8" + close + "+0", "221 54 7 8");
        good("LD (IX-" + open + "7" + close + ")," + "-".repeat(40) + "8", "221 54 249 8");
        bad("LD (IX-" + open + "`(7" + close + "))", 2);
        good("LD A,(" + open + "7" + close + ")", "58 7 0");
        bad("LD A,(" + open + "`(7" + close + "))", 2);
    }

    private static void places() {
        Check.holds(TERMS, "one that begins with ( and whose ) is its last token is a place in memory");
        good("LD A,(5)", "58 5 0");
        good("LD A,(5)+0", "62 5");
        good("LD A,0+(5)", "62 5");
        good("LD A,(5)*(1)", "62 5");
        good("LD A,((5))", "58 5 0");
        good("LD A,((5)*(1))", "58 5 0");
        good("LD A,-(5)+10", "62 5");
        good("LD HL,(5)\nLD HL,(5)+1", "42 5 0 33 6 0");
        bad("`JP (5)", 6);
        good("JP (5)+0", "195 5 0");
        bad("`RST (8)", 6);
        Check.holds(TERMS, "(HL) (BC) (DE) (SP) (C) (IX) (IY), (IX + exp) (IX - exp) and those with IY, else ( exp )");
        good("LD A,(HL)\nLD A,(BC)\nLD A,(DE)\nEX (SP),HL\nIN A,(C)\nLD A,(IX)\nLD A,(IY)", "126 10 26 227 237 120 221 126 0 253 126 0");
        good("LD A,(IX+1)\nLD A,(IX-1)\nLD A,(IY+1)\nLD A,(IY-1)", "221 126 1 221 126 255 253 126 1 253 126 255");
        good("LD A,(IX+-1)\nLD A,(IX--1)\nLD A,(IX+2*3)\nLD A,(IX-2*3)", "221 126 255 221 126 1 221 126 6 221 126 250");
        for (String name : new String[] {"A", "B", "D", "E", "H", "L", "I", "R", "AF", "AF'", "NZ", "Z", "NC", "PO", "PE", "P", "M", "NOP", "IF"}) {
            bad("LD A,(`" + name + ")", 2);
        }
        for (String name : new String[] {"HL", "BC", "DE", "SP", "C"}) {
            bad("LD A,(`" + name + "+1)", 2);
            bad("LD A,(`" + name + "-1)", 2);
        }
        for (String name : new String[] {"IX", "IY"}) {
            bad("LD A,(`" + name + "*1)", 2);
            bad("LD A,(`" + name + "/1)", 2);
            bad("LD A,(`" + name + " 1)", 2);
            bad("LD A,(1+`" + name + ")", 2);
            bad("LD A,((`" + name + "))", 2);
            bad("LD A,((`" + name + "+1))", 2);
            bad("LD A,(" + name + "+`)", 2);
            bad("LD A,(" + name + "-`)", 2);
            bad("LD A,(" + name + "+`" + name + ")", 2);
        }
        bad("LD A,(`)", 2);
        Check.holds(TERMS, "(IX) is (IX+0), but in JP");
        good("INC (IX)\nSET 1,(IY)\nLD (IX),5\nRL (IX)", "221 52 0 253 203 0 206 221 54 0 5 221 203 0 22");
        good("JP (IX)\nJP (IY)\nJP (HL)", "221 233 253 233 233");
        bad("`JP (IX+0)", 6);
        bad("`JP (IY-0)", 6);
        bad("`JP NZ,(IX)", 6);
        Check.holds(TERMS, "One whose ) is not found so, up to the line's end or a place where no token begins, is an exp");
        bad("LD A,(`HL", 2);
        bad("LD A,(`IX", 2);
        bad("LD A,(`IX+5", 2);
        bad("LD A,(`IX+?)", 2);
        bad("LD A,(5`", 2);
        bad("LD A,(5 `?)", 1);
        bad("LD A,(`HL\n)", 2);
        bad("LD A,(`HL;)", 2);
        bad("LD A,(`HL)+1", 2);
        bad("LD A,(`HL) 1", 2);
        bad("LD A,(`HL):", 2);
        bad("LD A,(`HL))", 2);
        bad("LD A,(5)`)", 2);
        bad("LD A,((5)`", 2);
        bad("LD A,(`HL)?", 2);
        Check.holds(TERMS, "in a place an exp ends at the )");
        for (String place : new String[] {"5", "IX+5", "IY-5"}) {
            bad("LD A,(" + place + " `6)", 2);
            bad("LD A,(" + place + " `X)", 2);
            bad("LD A,(" + place + "`,6)", 2);
            bad("LD A,(" + place + "`:)", 2);
            bad("LD A,(" + place + " `(6))", 2);
            bad("LD A,(" + place + " `~6)", 2);
        }
    }

    private static void alone() {
        Check.holds(TERMS, "a register or condition, that NAME alone; else an exp (A+1 too, in which A cannot stand)");
        good("LD A,B\nRET NZ\nRET C\nINC SP\nLD I,A", "120 192 216 51 237 71");
        for (String name : new String[] {"A", "B", "C", "D", "E", "H", "L", "I", "R", "AF", "AF'", "BC", "DE", "HL", "SP", "IX", "IY", "NZ", "Z", "NC",
            "PO", "PE", "P", "M"}) {
            bad("LD `" + name + "+1,5", 2);
            bad("LD `" + name + " 5", 2);
            bad("LD `" + name + "?", 2);
            bad("LD 1+`" + name + ",5", 2);
            bad("LD -`" + name, 2);
            bad("`NOP " + name, 6);
            bad("`NOP " + name + "," + name, 6);
            bad("`NOP " + name + " ,5;", 6);
        }
        for (String word : new String[] {"NOP", "LD", "OTDR", "ORG", "EQU", "DB", "ENDIF"}) {
            bad("LD 5,`" + word, 2);
            bad("LD A,`" + word, 2);
        }
        Check.holds(TERMS, "Alone, last is what a , a ; or the line's end stands behind, blanks aside");
        good("LD A,B", "120");
        good("LD A,B\n", "120");
        good("LD A,B;?", "120");
        good("LD A \t\r,B \t\r;?", "120");
        good("LD A,B \t\r\n", "120");
        good("LD A,(HL) \t\r;?", "126");
        good("LD (HL) \t\r,A", "119");
        Check.holds(TERMS, "where anything else does, no token either, it is an exp");
        bad("LD A,`B ?", 2);
        bad("LD A,(`HL) ?", 2);
        bad("EX AF,`AF''", 2);
        bad("LD A,`B:", 2);
        bad("LD A,`B(5)", 2);
        bad("LD `A\0,B", 2);
    }

    private static void twoOperands() {
        Check.holds(TERMS, "There are two operands at most: a , behind the second cannot stand there");
        good("LD A,5", "62 5");
        bad("LD A,5`,", 2);
        bad("LD A,B`,C", 2);
        bad("LD A,(HL)`,?", 2);
        bad("NOP 1,2`,3", 2);
        bad("`NOP 1,2", 6);
        bad("`NOP 1", 6);
        good("NOP", "0");
        bad("LD `,A", 2);
        bad("LD A,`", 2);
        bad("LD A,`,B", 2);
        bad("`LD A", 6);
        bad("`LD", 6);
    }

    private static void reserved() {
        Check.holds(TERMS, "RESERVED are ... and all words of instructions and statements: an exp has none (2)");
        String words = "A B C D E H L I R AF AF' BC DE HL SP IX IY NZ Z NC PO PE P M "
            + "NOP EX DJNZ JR LD ADD INC DEC RLCA RRCA RLA RRA DAA CPL SCF CCF HALT ADC SUB SBC AND XOR OR CP RET POP EXX JP OUT IN DI EI CALL PUSH RST "
            + "RLC RRC RL RR SLA SRA SRL BIT RES SET NEG RETN RETI IM RRD RLD LDI CPI INI OUTI LDD CPD IND OUTD LDIR CPIR INIR OTIR LDDR CPDR INDR OTDR "
            + "ORG EQU DB DW DS IF ELSE ENDIF";
        for (String word : words.split(" ")) {
            bad("`" + word + ":", 3);
            bad("`" + word.toLowerCase() + " EQU 5", 3);
            bad("DB 1,`" + word, 2);
            bad("V EQU 1+`" + word.toLowerCase(), 2);
        }
        Check.holds(TERMS, "RESERVED: no other NAME is");
        String others = "F G J K N O Q S T U V W X Y PC IXH IXL IYH IYL AFF AF_ NOPE SLL SLI LDX LDIRR OTI OTD OUTIR INDIR CPIRR EQ EQUS DEFB DC ORGG IFF "
            + "IFE ENDI END ELS ELIF TEXT MOV A1 A_ _A HL1 NN CY PP MM RST0 IM0 BITS SETS INX";
        for (String name : others.split(" ")) {
            good(name + ":DB " + name + "+1", "1");
            good(name.toLowerCase() + " EQU 7\nDB " + name, "7");
            bad("`" + name, 6);
        }
    }

    private static void targets() {
        Check.holds(TERMS, "Where e stands, the exp is the address: d is it less what stands behind the instruction, -128 .. 127");
        for (String word : new String[] {"JR ", "DJNZ ", "JR NZ,", "JR C,"}) {
            OpcodeForge forge = Check.fed("ORG 1000\n" + word + "1129");
            Check.same(word + "127", forge.forge(), 2);
            Check.same(word + "127", forge.octet(1001), 127);
            forge = Check.fed("ORG 1000\n" + word + "874");
            Check.same(word + "-128", forge.forge(), 2);
            Check.same(word + "-128", forge.octet(1001), 128);
            bad("ORG 1000\n" + word + "`1130", 5);
            bad("ORG 1000\n" + word + "`873", 5);
            bad("ORG 1000\n" + word + "`0", 5);
            bad("ORG 1000\n" + word + "`1000+$8000", 5);
        }
        Check.holds(TERMS, "(the lowest 16 bits with sign)");
        good("JR 129\nDS 0", "24 127");
        bad("JR `130", 5);
        good("JR -126", "24 128");
        bad("JR `-127", 5);
        good("JR 65535-125", "24 128");
        bad("JR `65535-126", 5);
        good("JR 65535+130", "24 127");
        bad("JR `65535+131", 5);
        good("JR 5<<16", "24 254");
        good("JR (5<<16)+129", "24 127");
        bad("JR `(5<<16)+130", 5);
        good("JR -1<<31|129", "24 127");
        bad("JR `$8002", 5);
        bad("JR `$8001", 5);
        Check.forges("ORG 65534\nJR 127", 65534, "24 127");
        bad("ORG 65534\nJR `128", 5);
        Check.forges("ORG 65534\nJR 65408", 65534, "24 128");
        bad("ORG 65534\nJR `65407", 5);
    }

    /** A range of octets: the last two that are allowed, the first two that are not. */
    private static void octets(String before, String behind, int address, int low, int high) {
        for (int v : new int[] {low, high, 0}) {
            OpcodeForge forge = Check.fed(before + v + behind);
            Check.same("forge of " + before + v + behind, forge.forge() > 0 ? 1 : 0, 1);
            Check.same("octet of " + before + v + behind, forge.octet(address), v & 255);
        }
        for (int v : new int[] {low - 1, high + 1, -65535, 65535}) {
            bad(before + "`" + v + behind, 5);
        }
    }

    private static void octetRanges() {
        Check.holds(TERMS, "n: -128 .. 255; DB n; ports n; DS b in the range of an n");
        octets("LD B,", "", 1, -128, 255);
        octets("LD (HL),", "", 1, -128, 255);
        octets("ADD A,", "", 1, -128, 255);
        octets("CP ", "", 1, -128, 255);
        octets("LD (IX+5),", "", 3, -128, 255);
        octets("OUT (", "),A", 1, -128, 255);
        octets("IN A,(", ")", 1, -128, 255);
        octets("DB ", "", 0, -128, 255);
        octets("DB 5,", ",6", 1, -128, 255);
        octets("DS 3,", "", 2, -128, 255);
        Check.holds(TERMS, "d: -128 .. 127");
        octets("LD A,(IX+", ")", 2, -128, 127);
        octets("LD (IY+", "),7", 2, -128, 127);
        octets("INC (IX+", ")", 2, -128, 127);
        octets("SET 0,(IX+", ")", 2, -128, 127);
        octets("RLC (IY+", ")", 2, -128, 127);
        good("LD A,(IX-128)\nLD A,(IX--127)", "221 126 128 221 126 127");
        bad("LD A,(IX-`129)", 5);
        bad("LD A,(IX-`-128)", 5);
        bad("LD A,(IX-`$8000<<16)", 5);
    }

    private static void wordRanges() {
        Check.holds(TERMS, "m: -32768 .. 65535; DW m");
        String[][] shapes = {{"LD HL,", "", "1"}, {"LD IX,", "", "2"}, {"LD A,(", ")", "1"}, {"LD (", "),A", "1"}, {"LD (", "),BC", "2"},
            {"LD SP,(", ")", "2"}, {"JP ", "", "1"}, {"JP PE,", "", "1"}, {"CALL ", "", "1"}, {"CALL M,", "", "1"}, {"DW ", "", "0"}, {"DW 1,", ",2", "2"}};
        for (String[] shape : shapes) {
            int at = Integer.parseInt(shape[2]);
            for (int v : new int[] {-32768, -1, 0, 255, 256, 65535}) {
                OpcodeForge forge = Check.fed(shape[0] + v + shape[1]);
                Check.same("forge of " + shape[0] + v, forge.forge() > 0 ? 1 : 0, 1);
                Check.same("octets of " + shape[0] + v, forge.octet(at) + 256 * forge.octet(at + 1), v & 65535);
            }
            bad(shape[0] + "`-32769" + shape[1], 5);
            bad(shape[0] + "`65535+1" + shape[1], 5);
            bad(shape[0] + "`-65535" + shape[1], 5);
            bad(shape[0] + "`1<<31" + shape[1], 5);
        }
    }

    private static void smallRanges() {
        Check.holds(TERMS, "bits 0 .. 7");
        good("BIT 0,B\nBIT 7,B\nRES 0,A\nRES 7,A\nSET 0,(HL)\nSET 7,(HL)", "203 64 203 120 203 135 203 191 203 198 203 254");
        for (String word : new String[] {"BIT ", "RES ", "SET "}) {
            bad(word + "`-1,A", 5);
            bad(word + "`8,(HL)", 5);
            bad(word + "`8,(IX+5)", 5);
            bad(word + "`255,A", 5);
        }
        Check.holds(TERMS, "IM 0 .. 2");
        good("IM 0\nIM 1\nIM 2", "237 70 237 86 237 94");
        bad("IM `-1", 5);
        bad("IM `3", 5);
        Check.holds(TERMS, "RST 0, 8, .. 56");
        for (int v = 0; v <= 56; v += 8) {
            good("RST " + v, "" + (199 + v));
        }
        for (int v : new int[] {-8, -1, 1, 4, 7, 9, 55, 57, 63, 64, 72, 256}) {
            bad("RST `" + v, 5);
        }
    }

    private static void originAndSpace() {
        Check.holds(TERMS, "ORG: where the next statement stands, 0 .. 65535");
        good("ORG 0\nHALT", "118");
        Check.forges("ORG 65535\nHALT", 65535, "118");
        bad("ORG `-1", 5);
        bad("ORG `65535+1", 5);
        bad("ORG `1<<16", 5);
        Check.holds(TERMS, "DS a, b: a octets b (0 without), a 0 .. 65535");
        good("DS 0\nHALT", "118");
        good("DS 1\nHALT", "0 118");
        good("DB 9,9,9\nORG 0\nDS 2\nORG 0\nDS 0,5", "0 0 9 0 0");
        bad("DS `-1", 5);
        bad("DS `65535+1", 5);
        bad("DS `65535+1,5", 5);
        OpcodeForge forge = Check.fed("DS 65535,200\nHALT");
        Check.same("65535 octets and one", forge.forge(), 65536);
        Check.same("the first", forge.octet(0), 200);
        Check.same("the last of them", forge.octet(65534), 200);
        Check.same("the one behind", forge.octet(65535), 118);
    }

    private static void conditions() {
        Check.holds(TERMS, "IF: what follows up to its ELSE or ENDIF is done if exp is not 0, that behind ELSE if it is 0");
        for (String exp : new String[] {"1", "-1", "65535", "$8000<<16", "1<<31", "@+1"}) {
            good("IF " + exp + "\nDB 1\nENDIF\nDB 3", "1 3");
            good("IF " + exp + "\nDB 1\nELSE\nDB 2\nENDIF\nDB 3", "1 3");
        }
        for (String exp : new String[] {"0", "-0", "1-1", "$8000<<17", "1/2", "@"}) {
            good("IF " + exp + "\nDB 1\nENDIF\nDB 3", "3");
            good("IF " + exp + "\nDB 1\nELSE\nDB 2\nENDIF\nDB 3", "2 3");
        }
        good("IF 1\nENDIF\nDB 3", "3");
        good("IF 0\nELSE\nENDIF\nDB 3", "3");
        for (int outer = 0; outer < 2; outer++) {
            for (int inner = 0; inner < 2; inner++) {
                String due = (outer == 1 ? "1 " + (inner == 1 ? "2" : "3") + " 4" : "5 " + (inner == 1 ? "6" : "7")) + " 8";
                good("IF " + outer + "\nDB 1\nIF " + inner + "\nDB 2\nELSE\nDB 3\nENDIF\nDB 4\nELSE\nDB 5\nIF " + inner
                    + "\nDB 6\nELSE\nDB 7\nENDIF\nENDIF\nDB 8", due);
            }
        }
    }

    private static void notDone() {
        Check.holds(TERMS, "lines that are not done are looked at for IF, ELSE, ENDIF alone");
        for (String line : new String[] {"?", "5 5", "\"", "'", "65536", "A:", "X:X:", "FOO", "ORG", "ORG -1", "ORG Q", "DB 1/0", "LD", "EQU", "V EQU",
            "((((", "NOP 5", "A2345678901234567", "DS 65535\nDS 65535", "\000\377", "_IF 1", "IF_ 1", "IF1", "IFF", "ENDIFS", "ELSE2", "1IF 0", "@ ENDIF",
            "NOP ENDIF", "X ENDIF", "X ELSE", "X ? : ENDIF", "X;ENDIF", ";ENDIF", ": ENDIF", ", ENDIF", "( ENDIF", "X::ENDIF", "X: : ENDIF", "X:5 ENDIF",
            "X:Y:ENDIF", "X:\"ENDIF", "ENDIF:", "ENDIF :", "ENDIF:X", "ENDIF : NOP", "IF:", "ELSE:", "ELSE:5", "E NDIF", "E_NDIF"}) {
            good("IF 0\n" + line + "\nDB 1\nENDIF\nDB 3", "3");
            good("IF 0\n" + line + "\nDB 1\nELSE\nDB 2\nENDIF\nDB 3", "2 3");
            good("IF 1\nELSE\n" + line + "\nENDIF\nDB 3", "3");
        }
        Check.holds(TERMS, "as the NAME that begins the line, or, if a : stands behind that, the one right behind the :");
        for (String line : new String[] {"ENDIF", "endif", "\tENDIF", " \r ENDIF", "ENDIF;", "ENDIF 5", "ENDIF ?", "ENDIF'", "ENDIF+", "ENDIF \"", "ENDIF,:",
            "X:ENDIF", "X : ENDIF", "X\t:\r ENDIF", "X:ENDIF:", "A:ENDIF", "NOP:ENDIF", "IF:ENDIF", "ELSE:ENDIF", "ENDIF:ENDIF", "ENDIF X: NOP", "X:ENDIF ?"}) {
            good("IF 0\n" + line + "\nDB 3", "3");
            good("IF 1\nELSE\n" + line + "\nDB 3", "3");
            String other = line.replaceAll("ENDIF$", "ELSE").replaceAll("^ENDIF", "ELSE").replaceAll("ENDIF(?=[ :;+',])", "ELSE");
            if (!other.toUpperCase().contains("ENDIF") && !other.startsWith("ELSE:")) {
                good("IF 0\nDB 1\n" + other + "\nDB 2\nENDIF\nDB 3", "2 3");
            }
        }
        good("IF 0\nIF\nDB 1\nENDIF\nELSE\nDB 2\nENDIF", "2");
        good("IF 0\nX:IF ?\nDB 1\nENDIF\nELSE\nDB 2\nENDIF", "2");
        good("IF 0\nIF:IF ?\nDB 1\nENDIF\nELSE\nDB 2\nENDIF", "2");
        good("IF 0\nIF EQU 5\nDB 1\nENDIF\nELSE\nDB 2\nENDIF", "2");
        Check.holds(TERMS, "(NAMES are a letter or _ there, then letters, digits, _, of any length, without the ' of AF')");
        good("IF 0\nA23456789012:ENDIF\nDB 3", "3");
        good("IF 0\nA234567890123:ENDIF\nDB 3", "3");
        good("IF 0\n" + "_9a".repeat(300) + " : ENDIF\nDB 3", "3");
        good("IF 0\nAF:ENDIF\nDB 3", "3");
        good("IF 0\nAF':ENDIF\nENDIF\nDB 3", "3");
        good("IF 0\nAF' : ENDIF\nENDIF\nDB 3", "3");
        good("IF 0\nENDIFENDIFENDIF\nX:ENDIFENDIFENDIF\nENDIF\nDB 3", "3");
        Check.holds(TERMS, "and not any further (5 ENDIF, AF' : ENDIF are passed over)");
        good("IF 0\n5 ENDIF\nENDIF\nDB 3", "3");
        good("IF 0\n5: ENDIF\nENDIF\nDB 3", "3");
        Check.holds(TERMS, "lines that are not done tell no LABEL, also those of their ELSE and ENDIF");
        bad("IF 0\nX:ENDIF\nDB `X", 4);
        bad("IF 0\nX:ELSE\nENDIF\nDB `X", 4);
        good("IF 1\nX:ENDIF\nDB X", "0");
        good("IF 1\nX:ELSE\nENDIF\nDB X", "0");
        good("X:IF 0\nX:X:\nENDIF\nDB X", "0");
    }

    private static void depthOfIfs() {
        Check.holds(TERMS, "8 in one another at most");
        String one = "IF 1\n";
        String none = "IF 0\n";
        String end = "ENDIF\n";
        good(one.repeat(8) + "DB 1\n" + end.repeat(8) + "DB 2", "1 2");
        bad(one.repeat(8) + "`IF 1\n" + end.repeat(9), 7);
        good(none.repeat(8) + "DB 1\n" + end.repeat(8) + "DB 2", "2");
        bad(none.repeat(8) + "`IF 1\n" + end.repeat(9), 7);
        good(one.repeat(7) + (one + end).repeat(20) + "DB 1\n" + end.repeat(7) + "DB 2", "1 2");
        good(none.repeat(7) + (one + end).repeat(20) + "DB 1\n" + end.repeat(7) + "DB 2", "2");
        good(none + "ELSE\n" + one.repeat(7) + "DB 1\n" + end.repeat(8), "1");
        bad(none + "ELSE\n" + one.repeat(7) + "`IF 1\n" + end.repeat(9), 7);
        good(one.repeat(8) + "ELSE\n" + end.repeat(8) + "DB 2", "2");
        good((one + end).repeat(100) + "DB 2", "2");
    }

    private static void passes() {
        Check.holds(TERMS, "ORG, EQU, DS's first, IF must be known then, from what stands before");
        good("X EQU 0\nORG X\nDB 1", "1");
        bad("ORG `X\nX EQU 0", 4);
        good("X EQU 2\nY EQU X\nDB Y", "2");
        bad("Y EQU `X\nX EQU 2", 4);
        good("X EQU 2\nDS X,9", "9 9");
        bad("DS `X,9\nX EQU 2", 4);
        good("X EQU 1\nIF X\nDB 1\nENDIF", "1");
        bad("IF `X\nDB 1\nENDIF\nX EQU 1", 4);
        bad("X EQU `X", 4);
        bad("X EQU 1+`X", 4);
        good("X:ORG X\nDB 5", "5");
        good("X:Y EQU X+1\nDB Y", "1");
        good("X:DS X+1,7", "7");
        good("X:IF X\nDB 1\nENDIF\nDB 2", "2");
        Check.holds(TERMS, "The second puts the octets (others may stand behind)");
        good("DB X\nX EQU 5", "5");
        good("DW X\nX:", "2 0");
        good("LD HL,X\nX:", "33 3 0");
        good("DS 2,X\nX EQU 6", "6 6");
        good("DS 2,X\nX:", "2 2");
        good("JR X\nX:", "24 0");
        good("RST X\nBIT Y,A\nIM W\nX EQU 8\nY EQU 1\nW EQU 2", "207 203 79 237 94");
        good("LD (IX+X),X\nX:", "221 54 4 4");
        Check.holds(TERMS, "the first finds LABELS with their VALUES");
        good("IF 0\nX EQU 1\nELSE\nX EQU 2\nENDIF\nDB X", "2");
        good("ORG 5\nX:ORG 0\nDB X", "5");
        Check.holds(TERMS, "The second puts the octets into MEMORY, in order");
        OpcodeForge forge = Check.fed("ORG 1\nDB 1,2,3\nORG 0\nDB 9,8\nORG 2\nDW 7");
        Check.same("put", forge.forge(), 7);
        Check.same("the later ones stay", Check.octetsAt(forge, 0, 5), "9 8 7 0 0");
        Check.same("the first one put", forge.told(4), 1);
    }

    private static String names(int n) {
        StringBuilder text = new StringBuilder();
        for (int i = 0; i < n; i++) {
            text.append(i % 2 == 0 ? "N" + i + ":" : "N" + i + " EQU " + i + "\n");
        }
        return text.toString();
    }

    private static void labels() {
        Check.holds(TERMS, "(NAMES of EQU are LABELS, too; 200 at most)");
        String text = names(200);
        OpcodeForge forge = Check.fed(text);
        Check.same("200 LABELS", forge.forge(), 0);
        Check.same("told(3)", forge.told(3), 200);
        Check.same("the last one", Check.labelName(forge, 199), "N199");
        Check.same("none behind it", Check.labelName(forge, 200), "");
        bad(text + "`M1:", 3);
        bad(text + "`M1 EQU 5", 3);
        bad(text + "`M1: ?", 3);
        bad(text + "`M1 EQU ?", 3);
        good(text + "IF 0\nM1:\nENDIF", "");
        good(text + "DB 7", "7");
        bad(names(199) + "\nM1:`M2 EQU 5", 3);
    }
}
