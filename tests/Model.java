import java.util.TreeSet;

/**
 * The machine once more, for the tests: it reads each instruction as a text of Tables and does what the words say,
 * with flags counted one by one.
 */
final class Model {
    static final int[] SIZES = {65535, 65535, 65535, 65535, 65535, 65535, 65535, 65535, 65535, 65535, 65535, 65535, 255, 255, 1, 1, 2};

    final int[] memory = new int[65536];
    final int[] register = new int[17];
    final int[] in = new int[256];
    final int[] out = new int[256];
    final TreeSet<Integer> touched = new TreeSet<>();
    long outs = 0;
    boolean hard = false;
    int plain = -1;
    boolean enabledNow = false;
    private String text;
    private int next;
    private int start;

    Model() {
        register[10] = 65535;
    }

    int read(int address) {
        return memory[address & 65535];
    }

    int readPair(int address) {
        return read(address) + 256 * read(address + 1);
    }

    void write(int address, int v) {
        memory[address & 65535] = v & 255;
        touched.add(address & 65535);
    }

    private void writePair(int address, int v) {
        write(address, v);
        write(address + 1, v >> 8);
    }

    int step() {
        if (hard || plain >= 0 && register[14] == 1 && !enabledNow) {
            request();
            return 2;
        }
        start = register[11];
        if (!decode(start)) {
            return 0;
        }
        int lead = read(start);
        int by = lead == 203 || lead == 221 || lead == 237 || lead == 253 ? 2 : 1;
        register[13] = register[13] / 128 * 128 + (register[13] + by) % 128;
        register[11] = next & 65535;
        enabledNow = text.equals("EI");
        String[] words = text.split(" ");
        String[] operands = words.length > 1 ? words[1].split(",") : new String[0];
        act(words[0], operands.length > 0 ? operands[0] : "", operands.length > 1 ? operands[1] : "");
        return text.equals("HALT") ? 3 : 1;
    }

    private boolean decode(int at) {
        int group = Tables.PLAIN;
        int lead = read(at);
        int octet = lead;
        if (lead == 203 || lead == 237) {
            group = lead == 203 ? Tables.BITS : Tables.EXTRA;
            octet = read(at + 1);
        } else if (lead == 221 || lead == 253) {
            group = lead == 221 ? Tables.IX : Tables.IY;
            octet = read(at + 1);
            if (octet == 203) {
                group = lead == 221 ? Tables.IX_BITS : Tables.IY_BITS;
                octet = read(at + 3);
            }
        }
        String shape = Tables.of(group, octet);
        if (shape == null) {
            return false;
        }
        int size = Tables.size(group, shape);
        boolean near = shape.contains("d)");
        int number = at + (group == Tables.PLAIN ? 1 : near ? 3 : 2);
        text = Tables.filled(group, shape, at, read(at + 2), read(number), read(number + 1));
        next = at + size;
        return true;
    }

    private void request() {
        register[13] = register[13] / 128 * 128 + (register[13] + 1) % 128;
        enabledNow = false;
        int pc = register[11];
        if (read(pc) == 118) {
            pc = (pc + 1) % 65536;
        }
        register[10] = register[10] + 65534 & 65535;
        writePair(register[10], pc);
        register[14] = 0;
        if (hard) {
            hard = false;
            register[11] = 102;
            return;
        }
        register[15] = 0;
        int[] targets = {plain / 8 % 8 * 8, 56, readPair(256 * register[12] + plain)};
        register[11] = targets[register[16]];
        plain = -1;
    }

    private int pairNumber(String name) {
        switch (name) {
            case "AF":
                return 0;
            case "BC":
                return 1;
            case "DE":
                return 2;
            case "HL":
                return 3;
            case "IX":
                return 8;
            case "IY":
                return 9;
            case "SP":
                return 10;
            default:
                return -1;
        }
    }

    private int octetNumber(String name) {
        return name.length() == 1 ? "F A C B E D L H".replace(" ", "").indexOf(name) : -1;
    }

    /** The address within the parentheses. */
    private int place(String operand) {
        String inside = operand.substring(1, operand.length() - 1);
        if (pairNumber(inside) >= 0) {
            return register[pairNumber(inside)];
        }
        if (inside.startsWith("I")) {
            return register[pairNumber(inside.substring(0, 2))] + Integer.parseInt(inside.substring(2));
        }
        return Integer.parseInt(inside);
    }

    private int get(String operand) {
        if (pairNumber(operand) >= 0) {
            return register[pairNumber(operand)];
        }
        if (octetNumber(operand) >= 0) {
            int number = octetNumber(operand);
            return number % 2 == 1 ? register[number / 2] / 256 : register[number / 2] % 256;
        }
        if (operand.equals("I") || operand.equals("R")) {
            return register[operand.equals("I") ? 12 : 13];
        }
        return operand.startsWith("(") ? read(place(operand)) : Integer.parseInt(operand);
    }

    private void put(String operand, int v) {
        if (pairNumber(operand) >= 0) {
            register[pairNumber(operand)] = v & 65535;
        } else if (octetNumber(operand) >= 0) {
            int number = octetNumber(operand);
            int other = number % 2 == 1 ? register[number / 2] % 256 : register[number / 2] / 256;
            register[number / 2] = number % 2 == 1 ? (v & 255) * 256 + other : other * 256 + (v & 255);
        } else if (operand.equals("I") || operand.equals("R")) {
            register[operand.equals("I") ? 12 : 13] = v & 255;
        } else {
            write(place(operand), v);
        }
    }

    private boolean flag(char name) {
        return get("F") / (128 >> "SZYHXPNC".indexOf(name)) % 2 == 1;
    }

    private void flag(char name, boolean on) {
        int bit = 128 >> "SZYHXPNC".indexOf(name);
        put("F", get("F") - (flag(name) ? bit : 0) + (on ? bit : 0));
    }

    private void flags(String names, boolean on) {
        for (char name : names.toCharArray()) {
            flag(name, on);
        }
    }

    private void yx(int v) {
        flag('Y', v / 32 % 2 == 1);
        flag('X', v / 8 % 2 == 1);
    }

    private void szyx(int v) {
        flag('S', v > 127);
        flag('Z', v == 0);
        yx(v);
    }

    private boolean even(int v) {
        boolean even = true;
        for (int i = 0; i < 8; i++) {
            even ^= (v >> i) % 2 == 1;
        }
        return even;
    }

    private int signed(int v, int bits) {
        return v >= 1 << bits - 1 ? v - (1 << bits) : v;
    }

    private int add(int a, int v, int c, boolean keepsCarry) {
        int r = (a + v + c) % 256;
        int wide = signed(a, 8) + signed(v, 8) + c;
        szyx(r);
        flag('H', a % 16 + v % 16 + c > 15);
        flag('P', wide < -128 || wide > 127);
        flag('N', false);
        flag('C', keepsCarry ? flag('C') : a + v + c > 255);
        return r;
    }

    private int sub(int a, int v, int c, boolean keepsCarry) {
        int r = (a - v - c + 512) % 256;
        int wide = signed(a, 8) - signed(v, 8) - c;
        szyx(r);
        flag('H', a % 16 - v % 16 - c < 0);
        flag('P', wide < -128 || wide > 127);
        flag('N', true);
        flag('C', keepsCarry ? flag('C') : a - v - c < 0);
        return r;
    }

    private boolean holds(String condition) {
        switch (condition) {
            case "NZ":
                return !flag('Z');
            case "Z":
                return flag('Z');
            case "NC":
                return !flag('C');
            case "C":
                return flag('C');
            case "PO":
                return !flag('P');
            case "PE":
                return flag('P');
            case "P":
                return !flag('S');
            case "M":
                return flag('S');
            default:
                return true;
        }
    }

    private void act(String word, String one, String two) {
        if (word.matches("(LD|IN|OT|CP|OUT)[ID]R?")) {
            block(word);
        } else if (word.matches("ADD|ADC|SUB|SBC|AND|XOR|OR|CP|INC|DEC|NEG|DAA")) {
            count(word, one, two);
        } else if (word.matches("RLC|RRC|RL|RR|SLA|SRA|SRL|RLCA|RRCA|RLA|RRA|RLD|RRD|BIT|SET|RES|CPL|SCF|CCF")) {
            bits(word, one, two);
        } else if (word.matches("JP|JR|CALL|RET|RST|DJNZ|RETN|RETI|HALT")) {
            go(word, one, two);
        } else {
            move(word, one, two);
        }
    }

    private void move(String word, String one, String two) {
        switch (word) {
            case "LD":
                if (pairNumber(one) >= 0) {
                    put(one, two.startsWith("(") ? readPair(place(two)) : get(two));
                } else if (pairNumber(two) >= 0) {
                    writePair(place(one), get(two));
                } else {
                    put(one, get(two));
                    if (two.equals("I") || two.equals("R")) {
                        szyx(get("A"));
                        flags("HN", false);
                        flag('P', register[15] == 1);
                    }
                }
                break;
            case "EX":
                exchange(one, two);
                break;
            case "EXX":
                for (int r = 1; r <= 3; r++) {
                    int v = register[r];
                    register[r] = register[r + 4];
                    register[r + 4] = v;
                }
                break;
            case "PUSH":
                push(get(one));
                break;
            case "POP":
                put(one, pop());
                break;
            case "IN":
                if (two.equals("(C)")) {
                    int v = in[get("C")];
                    put(one, v);
                    szyx(v);
                    flag('P', even(v));
                    flags("HN", false);
                } else {
                    put(one, in[place(two)]);
                }
                break;
            case "OUT":
                output(one.equals("(C)") ? get("C") : place(one), get(two));
                break;
            case "DI":
            case "EI":
                register[14] = word.equals("EI") ? 1 : 0;
                register[15] = register[14];
                break;
            case "IM":
                register[16] = Integer.parseInt(one);
                break;
            default:
                break;
        }
    }

    private void output(int port, int v) {
        out[port] = v;
        outs++;
    }

    private void exchange(String one, String two) {
        if (two.equals("AF'")) {
            int v = register[0];
            register[0] = register[4];
            register[4] = v;
        } else if (one.equals("DE")) {
            int v = get("DE");
            put("DE", get("HL"));
            put("HL", v);
        } else {
            int v = get(two);
            put(two, readPair(get("SP")));
            writePair(get("SP"), v);
        }
    }

    private void push(int v) {
        put("SP", get("SP") + 65535);
        write(get("SP"), v / 256);
        put("SP", get("SP") + 65535);
        write(get("SP"), v % 256);
    }

    private int pop() {
        int v = readPair(get("SP"));
        put("SP", get("SP") + 2);
        return v;
    }

    private void go(String word, String one, String two) {
        switch (word) {
            case "HALT":
                register[11] = start;
                break;
            case "RETN":
            case "RETI":
                register[11] = pop();
                register[14] = register[15];
                break;
            case "RET":
                if (holds(one)) {
                    register[11] = pop();
                }
                break;
            case "DJNZ":
                put("B", get("B") + 255);
                if (get("B") != 0) {
                    register[11] = get(one);
                }
                break;
            default:
                if (!two.isEmpty() && !holds(one)) {
                    return;
                }
                String target = two.isEmpty() ? one : two;
                int to = target.startsWith("(") ? place(target) : get(target);
                if (word.equals("CALL") || word.equals("RST")) {
                    push(register[11]);
                }
                register[11] = to;
                break;
        }
    }

    private void count(String word, String one, String two) {
        if (pairNumber(one) >= 0) {
            countWide(word, one, two);
            return;
        }
        int carry = flag('C') ? 1 : 0;
        int a = get("A");
        switch (word) {
            case "ADD":
                put("A", add(a, get(two), 0, false));
                break;
            case "ADC":
                put("A", add(a, get(two), carry, false));
                break;
            case "SUB":
                put("A", sub(a, get(one), 0, false));
                break;
            case "SBC":
                put("A", sub(a, get(two), carry, false));
                break;
            case "CP":
                sub(a, get(one), 0, false);
                yx(get(one));
                break;
            case "NEG":
                put("A", sub(0, a, 0, false));
                break;
            case "INC":
                put(one, add(get(one), 1, 0, true));
                break;
            case "DEC":
                put(one, sub(get(one), 1, 0, true));
                break;
            case "DAA":
                decimal(a);
                break;
            default:
                int v = get(one);
                logic(word.equals("AND") ? a & v : word.equals("OR") ? a | v : a ^ v, word.equals("AND"));
                break;
        }
    }

    private void logic(int r, boolean half) {
        put("A", r);
        szyx(r);
        flag('P', even(r));
        flag('H', half);
        flags("NC", false);
    }

    private void decimal(int a) {
        int t = flag('H') || a % 16 > 9 ? 6 : 0;
        boolean carry = flag('C') || a > 153;
        if (carry) {
            t += 96;
        }
        boolean half = flag('N') ? flag('H') && a % 16 < 6 : a % 16 > 9;
        int r = flag('N') ? (a - t + 256) % 256 : (a + t) % 256;
        put("A", r);
        szyx(r);
        flag('P', even(r));
        flag('H', half);
        flag('C', carry);
    }

    private void countWide(String word, String one, String two) {
        if (word.equals("INC") || word.equals("DEC")) {
            put(one, get(one) + (word.equals("INC") ? 1 : 65535));
            return;
        }
        int a = get(one);
        int v = get(two);
        boolean minus = word.equals("SBC");
        int c = !word.equals("ADD") && flag('C') ? 1 : 0;
        int r = (minus ? a - v - c + 65536 : a + v + c) % 65536;
        int wide = minus ? signed(a, 16) - signed(v, 16) - c : signed(a, 16) + signed(v, 16) + c;
        if (!word.equals("ADD")) {
            flag('S', r > 32767);
            flag('Z', r == 0);
            flag('P', wide < -32768 || wide > 32767);
        }
        yx(r / 256);
        flag('N', minus);
        flag('H', minus ? a % 4096 - v % 4096 - c < 0 : a % 4096 + v % 4096 + c > 4095);
        flag('C', minus ? a - v - c < 0 : a + v + c > 65535);
        put(one, r);
    }

    private void bits(String word, String one, String two) {
        int a = get("A");
        switch (word) {
            case "BIT":
                boolean zero = (get(two) >> Integer.parseInt(one)) % 2 == 0;
                flag('Z', zero);
                flag('P', zero);
                flag('S', one.equals("7") && !zero);
                flag('H', true);
                flag('N', false);
                yx(get(two));
                break;
            case "SET":
                put(two, get(two) | 1 << Integer.parseInt(one));
                break;
            case "RES":
                put(two, get(two) & 255 - (1 << Integer.parseInt(one)));
                break;
            case "CPL":
                put("A", 255 - a);
                flags("HN", true);
                yx(255 - a);
                break;
            case "SCF":
                flag('C', true);
                flags("HN", false);
                yx(a);
                break;
            case "CCF":
                flag('H', flag('C'));
                flag('C', !flag('C'));
                flag('N', false);
                yx(a);
                break;
            case "RLD":
            case "RRD":
                int v = read(get("HL"));
                int[] halves = word.equals("RLD") ? new int[] {v / 16, v % 16, a % 16} : new int[] {v % 16, a % 16, v / 16};
                write(get("HL"), halves[1] * 16 + halves[2]);
                put("A", a / 16 * 16 + halves[0]);
                szyx(get("A"));
                flag('P', even(get("A")));
                flags("HN", false);
                break;
            default:
                turn(word, one);
                break;
        }
    }

    private void turn(String word, String one) {
        boolean ofA = word.length() == 4 || word.equals("RLA") || word.equals("RRA");
        String way = ofA ? word.substring(0, word.length() - 1) : word;
        String what = ofA ? "A" : one;
        int v = get(what);
        int carry = flag('C') ? 1 : 0;
        boolean left = way.equals("RLC") || way.equals("RL") || way.equals("SLA");
        int goesOut = left ? v / 128 : v % 2;
        int comesIn = 0;
        if (way.equals("RLC") || way.equals("RRC")) {
            comesIn = goesOut;
        } else if (way.equals("RL") || way.equals("RR")) {
            comesIn = carry;
        } else if (way.equals("SRA")) {
            comesIn = v / 128;
        }
        int r = left ? v * 2 % 256 + comesIn : v / 2 + 128 * comesIn;
        put(what, r);
        if (!ofA) {
            szyx(r);
            flag('P', even(r));
        }
        yx(r);
        flags("HN", false);
        flag('C', goesOut == 1);
    }

    private void block(String word) {
        boolean repeats = word.endsWith("R");
        String name = repeats ? word.substring(0, word.length() - 1) : word;
        int by = name.endsWith("D") ? 65535 : 1;
        name = name.substring(0, name.length() - 1);
        int hl = get("HL");
        boolean again;
        if (name.equals("LD") || name.equals("CP")) {
            int v = read(hl);
            put("BC", get("BC") + 65535);
            put("HL", hl + by);
            int s = get("A") + v;
            again = get("BC") != 0;
            if (name.equals("LD")) {
                write(get("DE"), v);
                put("DE", get("DE") + by);
                flags("HN", false);
            } else {
                int r = sub(get("A"), v, 0, true);
                s = r - (flag('H') ? 1 : 0) + 256;
                again = again && r != 0;
            }
            flag('P', get("BC") != 0);
            flag('X', s / 8 % 2 == 1);
            flag('Y', s / 2 % 2 == 1);
        } else {
            boolean takes = name.equals("IN");
            int v = takes ? in[get("C")] : read(hl);
            if (takes) {
                write(hl, v);
            } else {
                output(get("C"), v);
            }
            put("B", get("B") + 255);
            put("HL", hl + by);
            int k = v + (takes ? (get("C") + by) % 256 : get("L"));
            szyx(get("B"));
            flag('N', v > 127);
            flags("HC", k > 255);
            flag('P', even(k % 8 ^ get("B")));
            again = get("B") != 0;
        }
        if (repeats && again) {
            register[11] = start;
        }
    }
}
