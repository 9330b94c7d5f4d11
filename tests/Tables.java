import java.util.List;

/** The tables of the document as texts, with n, m, e, d for numbers; null where there is no instruction. */
final class Tables {
    static final int PLAIN = 0;
    static final int BITS = 1;
    static final int EXTRA = 2;
    static final int IX = 3;
    static final int IY = 4;
    static final int IX_BITS = 5;
    static final int IY_BITS = 6;

    private static final List<String> R = List.of("B", "C", "D", "E", "H", "L", "(HL)", "A");
    private static final List<String> RP = List.of("BC", "DE", "HL", "SP");
    private static final List<String> RQ = List.of("BC", "DE", "HL", "AF");
    private static final List<String> CC = List.of("NZ", "Z", "NC", "C", "PO", "PE", "P", "M");
    private static final List<String> AL = List.of("ADD A,", "ADC A,", "SUB ", "SBC A,", "AND ", "XOR ", "OR ", "CP ");
    private static final List<String> RO = List.of("RLC", "RRC", "RL", "RR", "SLA", "SRA", "", "SRL");
    private static final String[] Z2 = {"LD (BC),A", "LD A,(BC)", "LD (DE),A", "LD A,(DE)", "LD (m),HL", "LD HL,(m)", "LD (m),A", "LD A,(m)"};
    private static final String[] Z7 = {"RLCA", "RRCA", "RLA", "RRA", "DAA", "CPL", "SCF", "CCF"};
    private static final String[] X3Z3 = {"JP m", null, "OUT (n),A", "IN A,(n)", "EX (SP),HL", "EX DE,HL", "DI", "EI"};
    private static final String[] BLOCKS = {"LDI", "CPI", "INI", "OUTI", "LDD", "CPD", "IND", "OUTD",
        "LDIR", "CPIR", "INIR", "OTIR", "LDDR", "CPDR", "INDR", "OTDR"};
    private static final String[] EXTRA_Z7 = {"LD I,A", "LD R,A", "LD A,I", "LD A,R", "RRD", "RLD", null, null};

    private Tables() {
    }

    static String of(int group, int octet) {
        switch (group) {
            case PLAIN:
                return plain(octet);
            case BITS:
                return bits(octet);
            case EXTRA:
                return extra(octet);
            case IX:
            case IY:
                return indexed(plain(octet), group == IX ? "IX" : "IY");
            default:
                return octet % 8 == 6 ? indexed(bits(octet), group == IX_BITS ? "IX" : "IY") : null;
        }
    }

    private static String indexed(String text, String name) {
        if (text == null || !text.contains("HL") || text.equals("EX DE,HL")) {
            return null;
        }
        if (text.equals("JP (HL)")) {
            return "JP (" + name + ")";
        }
        return text.replace("(HL)", "(" + name + "d)").replace("HL", name);
    }

    private static String plain(int b) {
        int x = b / 64;
        int y = b / 8 % 8;
        int z = b % 8;
        int p = y / 2;
        int q = y % 2;
        if (x == 1) {
            return b == 118 ? "HALT" : "LD " + R.get(y) + "," + R.get(z);
        }
        if (x == 2) {
            return AL.get(y) + R.get(z);
        }
        if (x == 0) {
            switch (z) {
                case 0:
                    String[] first = {"NOP", "EX AF,AF'", "DJNZ e", "JR e"};
                    return y < 4 ? first[y] : "JR " + CC.get(y - 4) + ",e";
                case 1:
                    return q == 0 ? "LD " + RP.get(p) + ",m" : "ADD HL," + RP.get(p);
                case 2:
                    return Z2[y];
                case 3:
                    return (q == 0 ? "INC " : "DEC ") + RP.get(p);
                case 4:
                    return "INC " + R.get(y);
                case 5:
                    return "DEC " + R.get(y);
                case 6:
                    return "LD " + R.get(y) + ",n";
                default:
                    return Z7[y];
            }
        }
        switch (z) {
            case 0:
                return "RET " + CC.get(y);
            case 1:
                return q == 0 ? "POP " + RQ.get(p) : List.of("RET", "EXX", "JP (HL)", "LD SP,HL").get(p);
            case 2:
                return "JP " + CC.get(y) + ",m";
            case 3:
                return X3Z3[y];
            case 4:
                return "CALL " + CC.get(y) + ",m";
            case 5:
                if (q == 0) {
                    return "PUSH " + RQ.get(p);
                }
                return p == 0 ? "CALL m" : null;
            case 6:
                return AL.get(y) + "n";
            default:
                return "RST " + 8 * y;
        }
    }

    private static String bits(int b) {
        int y = b / 8 % 8;
        String r = R.get(b % 8);
        switch (b / 64) {
            case 0:
                return y == 6 ? null : RO.get(y) + " " + r;
            case 1:
                return "BIT " + y + "," + r;
            case 2:
                return "RES " + y + "," + r;
            default:
                return "SET " + y + "," + r;
        }
    }

    private static String extra(int b) {
        int y = b / 8 % 8;
        int z = b % 8;
        int p = y / 2;
        if (b / 64 == 2) {
            return y >= 4 && z <= 3 ? BLOCKS[(y - 4) * 4 + z] : null;
        }
        if (b / 64 != 1) {
            return null;
        }
        switch (z) {
            case 0:
                return y == 6 ? null : "IN " + R.get(y) + ",(C)";
            case 1:
                return y == 6 ? null : "OUT (C)," + R.get(y);
            case 2:
                return (y % 2 == 0 ? "SBC HL," : "ADC HL,") + RP.get(p);
            case 3:
                if (p == 2) {
                    return null;
                }
                return y % 2 == 0 ? "LD (m)," + RP.get(p) : "LD " + RP.get(p) + ",(m)";
            case 4:
                return y == 0 ? "NEG" : null;
            case 5:
                return y == 0 ? "RETN" : y == 1 ? "RETI" : null;
            case 6:
                return y == 0 ? "IM 0" : y == 2 ? "IM 1" : y == 3 ? "IM 2" : null;
            default:
                return EXTRA_Z7[y];
        }
    }

    /** The octets of a code, with d, n, m, e standing for what follows. */
    static int[] octets(int group, int octet, int d, int low, int high) {
        String text = of(group, octet);
        boolean near = text != null && text.contains("d)");
        boolean number = text != null && text.matches(".*\\b[nme]\\b.*");
        int second = near ? d : low;
        int third = near ? low : high;
        switch (group) {
            case PLAIN:
                return new int[] {octet, low, high, 0};
            case BITS:
                return new int[] {203, octet, low, high};
            case EXTRA:
                return new int[] {237, octet, low, high};
            case IX:
            case IY:
                return new int[] {group == IX ? 221 : 253, octet, second, number || !near ? third : high};
            default:
                return new int[] {group == IX_BITS ? 221 : 253, 203, d, octet};
        }
    }

    /** How many octets a text's instruction has, in its group. */
    static int size(int group, String text) {
        int size = group == PLAIN ? 1 : group >= IX_BITS ? 4 : 2;
        if (group == IX || group == IY) {
            size += text.contains("d)") ? 1 : 0;
        }
        if (text.matches(".*\\bm\\b.*")) {
            size += 2;
        } else if (text.matches(".*\\b[ne]\\b.*")) {
            size += 1;
        }
        return size;
    }

    /** The text with its numbers, of an instruction that stands at an address. */
    static String filled(int group, String text, int address, int d, int low, int high) {
        String near = d > 127 ? "-" + (256 - d) : "+" + d;
        int behind = address + size(group, text);
        int target = behind + (low > 127 ? low - 256 : low) & 65535;
        return text.replace("d)", near + ")").replaceAll("\\bn\\b", "" + low).replaceAll("\\bm\\b", "" + (low + 256 * high))
            .replaceAll("\\be\\b", "" + target);
    }
}
