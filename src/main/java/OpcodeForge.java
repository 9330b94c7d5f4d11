import java.util.Arrays;

/** A forge for programs of a small machine of octets, and the machine that runs them. */
public final class OpcodeForge {
    private static final int NONE = -1;
    private static final int RANGE = -2;
    private static final int ROOM = -4;
    private static final int FAULT = -10;

    private static final int SOURCE_ROOM = 6000;
    private static final int LINE_ROOM = 300;
    private static final int LABEL_ROOM = 200;
    private static final int MEMORY_SIZE = 65536;

    // What operands are. Up to K_M also the ids of RESERVED names; C is the register and the condition.
    private static final int K_B = 1;
    private static final int K_C = 2;
    private static final int K_L = 6;
    private static final int K_AT_HL = 7;
    private static final int K_A = 8;
    private static final int K_BC = 9;
    private static final int K_DE = 10;
    private static final int K_HL = 11;
    private static final int K_SP = 12;
    private static final int K_AF = 13;
    private static final int K_AF_OTHER = 14;
    private static final int K_IX = 15;
    private static final int K_IY = 16;
    private static final int K_I = 17;
    private static final int K_R = 18;
    private static final int K_NZ = 19;
    private static final int K_Z = 20;
    private static final int K_NC = 21;
    private static final int K_PO = 22;
    private static final int K_PE = 23;
    private static final int K_P = 24;
    private static final int K_M = 25;
    private static final int K_AT_BC = 26;
    private static final int K_AT_DE = 27;
    private static final int K_AT_SP = 28;
    private static final int K_AT_C = 29;
    private static final int K_AT_IX = 30;
    private static final int K_AT_IY = 31;
    private static final int K_NEAR_IX = 32;
    private static final int K_NEAR_IY = 33;
    // As they are read: an exp, a place ( exp ).
    private static final int K_EXP = 34;
    private static final int K_PLACE = 35;
    // What the tables make of these: n, m, e, a bit, RST's, IM's, (n), (m).
    private static final int K_OCTET = 36;
    private static final int K_WORD = 37;
    private static final int K_TARGET = 38;
    private static final int K_BIT = 39;
    private static final int K_RST = 40;
    private static final int K_IM = 41;
    private static final int K_PORT = 42;
    private static final int K_MEMORY = 43;

    // The ids of the words, in the order of the constants WORDS.
    private static final int W_FIRST = 32;
    private static final int W_NOP = 32;
    private static final int W_EX = 33;
    private static final int W_DJNZ = 34;
    private static final int W_JR = 35;
    private static final int W_LD = 36;
    private static final int W_INC = 37;
    private static final int W_DEC = 38;
    private static final int W_RLCA = 39;
    private static final int W_RRA = 42;
    private static final int W_DAA = 43;
    private static final int W_CPL = 44;
    private static final int W_SCF = 45;
    private static final int W_CCF = 46;
    private static final int W_HALT = 47;
    private static final int W_ADD = 48;
    private static final int W_ADC = 49;
    private static final int W_SUB = 50;
    private static final int W_SBC = 51;
    private static final int W_AND = 52;
    private static final int W_XOR = 53;
    private static final int W_CP = 55;
    private static final int W_RET = 56;
    private static final int W_POP = 57;
    private static final int W_EXX = 58;
    private static final int W_JP = 59;
    private static final int W_OUT = 60;
    private static final int W_IN = 61;
    private static final int W_DI = 62;
    private static final int W_EI = 63;
    private static final int W_CALL = 64;
    private static final int W_PUSH = 65;
    private static final int W_RST = 66;
    private static final int W_RLC = 67;
    private static final int W_SRL = 73;
    private static final int W_BIT = 74;
    private static final int W_RES = 75;
    private static final int W_SET = 76;
    private static final int W_NEG = 77;
    private static final int W_RETN = 78;
    private static final int W_RETI = 79;
    private static final int W_IM = 80;
    private static final int W_RRD = 81;
    private static final int W_RLD = 82;
    private static final int W_LDI = 83;
    private static final int W_OTDR = 98;
    private static final int W_ORG = 99;
    private static final int W_EQU = 100;
    private static final int W_DB = 101;
    private static final int W_DW = 102;
    private static final int W_DS = 103;
    private static final int W_IF = 104;
    private static final int W_ELSE = 105;
    private static final int W_ENDIF = 106;
    private static final int W_BEHIND = 107;

    // Where an opcode stands: alone, or behind 203, 237, 221, 253, 221 203 d, 253 203 d.
    private static final int G_PLAIN = 0;
    private static final int G_BITS = 1;
    private static final int G_EXTRA = 2;
    private static final int G_IX = 3;
    private static final int G_IY = 4;
    private static final int G_IX_BITS = 5;
    private static final int G_IY_BITS = 6;
    private static final int CODES = 7 * 256;

    // REGISTERS as register() numbers them.
    private static final int R_AF = 0;
    private static final int R_BC = 1;
    private static final int R_DE = 2;
    private static final int R_HL = 3;
    private static final int R_OTHER = 4;
    private static final int R_IX = 8;
    private static final int R_IY = 9;
    private static final int R_SP = 10;
    private static final int R_PC = 11;
    private static final int R_I = 12;
    private static final int R_R = 13;
    private static final int R_L1 = 14;
    private static final int R_L2 = 15;
    private static final int R_MODE = 16;
    private static final int REGISTERS = 17;

    private static final int F_S = 128;
    private static final int F_Z = 64;
    private static final int F_Y = 32;
    private static final int F_H = 16;
    private static final int F_X = 8;
    private static final int F_P = 4;
    private static final int F_N = 2;
    private static final int F_C = 1;

    private final Memory memory = new Memory();
    private final Names names = new Names();
    private final Text source = new Text(SOURCE_ROOM);
    private final Text draft = new Text(SOURCE_ROOM + 1);
    private final Text written = new Text(32);
    private final Instruction instruction;
    private final Forger forger;
    private final Machine machine;

    public OpcodeForge() {
        Shapes shapes = new Shapes();
        instruction = new Instruction(memory, shapes, names);
        forger = new Forger(source, memory, names, shapes);
        machine = new Machine(memory, instruction);
    }

    public int feed(long v, int n) {
        if (n < 0 || n > 8) {
            return RANGE;
        }
        if (n == 0) {
            source.empty();
            return 0;
        }
        if (source.length() + n > SOURCE_ROOM) {
            return ROOM;
        }
        for (int i = n - 1; i >= 0; i--) {
            source.add((int) (v >> (8 * i)) & 255);
        }
        return source.length();
    }

    public int forge() {
        forger.begin();
        for (int which = Forger.FIND; which <= Forger.PUT && !forger.failed(); which++) {
            forger.pass(which);
        }
        return forger.answer();
    }

    public int told(int what) {
        return forger.fact(what);
    }

    public int label(int i) {
        return names.labelValue(i);
    }

    public int labelSign(int i, int k) {
        return Names.signOf(names.labelKey(i), k);
    }

    public int write(int address) {
        if (address < 0 || address >= MEMORY_SIZE) {
            return RANGE;
        }
        instruction.look(address);
        written.empty();
        instruction.appendTo(written);
        return instruction.size();
    }

    public int sign(int i) {
        return written.at(i);
    }

    public int source(int address, int n) {
        if (address < 0 || address >= MEMORY_SIZE || n < 1 || n > LINE_ROOM) {
            return RANGE;
        }
        draft.empty();
        names.append(draft, W_ORG);
        draft.add(' ');
        draft.addNumber(address);
        draft.add('\n');
        int at = address;
        for (int i = 0; i < n; i++) {
            instruction.look(at);
            instruction.appendTo(draft);
            draft.add('\n');
            at = at + instruction.size() & 65535;
        }
        if (draft.length() > SOURCE_ROOM) {
            return ROOM;
        }
        source.become(draft);
        return source.length();
    }

    public int sourceAt(int i) {
        return source.at(i);
    }

    public int octet(int address) {
        if (address < 0 || address >= MEMORY_SIZE) {
            return NONE;
        }
        return memory.at(address);
    }

    public int put(int address, int v) {
        if (address < 0 || address >= MEMORY_SIZE) {
            return NONE;
        }
        if (v < 0 || v > 255) {
            return RANGE;
        }
        int before = memory.at(address);
        memory.store(address, v);
        return before;
    }

    public int register(int r) {
        return machine.registerAt(r);
    }

    public int set(int r, int v) {
        int most = Machine.mostOf(r);
        if (most < 0) {
            return NONE;
        }
        if (v < 0 || v > most) {
            return RANGE;
        }
        return machine.changeRegister(r, v);
    }

    public int port(int p, int v) {
        if (p < 0 || p > 255) {
            return NONE;
        }
        if (v < 0 || v > 255) {
            return RANGE;
        }
        return machine.changeInput(p, v);
    }

    public int out(int p) {
        return machine.outputAt(p);
    }

    public int request(int kind, int v) {
        if (kind < 0 || kind > 1 || v < 0 || v > 255) {
            return RANGE;
        }
        return machine.await(kind == 1, v) ? 0 : 1;
    }

    public int step() {
        return machine.advance();
    }

    public int run(int n) {
        if (n < 0 || n > 20000) {
            return RANGE;
        }
        boolean goesOn = true;
        int steps = 0;
        while (goesOn && steps < n) {
            int answer = machine.advance();
            goesOn = answer == Machine.DONE || answer == Machine.TAKEN;
            steps++;
        }
        return steps;
    }

    public long outs() {
        return machine.outputs();
    }

    public void clear() {
        memory.fill(0, MEMORY_SIZE, 0);
        machine.reset();
    }

    /** The 65536 octets; addresses are modulo 65536. */
    private static final class Memory {
        private final byte[] octets = new byte[MEMORY_SIZE];

        int at(int address) {
            return octets[address & 65535] & 255;
        }

        int wordAt(int address) {
            return at(address) | at(address + 1) << 8;
        }

        void store(int address, int v) {
            octets[address & 65535] = (byte) v;
        }

        void storeWord(int address, int v) {
            store(address, v);
            store(address + 1, v >> 8);
        }

        void fill(int address, int n, int v) {
            if (address >= 0 && n >= 0 && address <= MEMORY_SIZE - n) {
                Arrays.fill(octets, address, address + n, (byte) v);
            }
        }
    }

    /** Bytes one behind the other, up to a room that is given once; what would go beyond is dropped. */
    private static final class Text {
        private final byte[] signs;
        private int length = 0;

        Text(int room) {
            signs = new byte[Math.max(room, 0)];
        }

        void empty() {
            length = 0;
        }

        int length() {
            return length;
        }

        int at(int i) {
            return i >= 0 && i < length && i < signs.length ? signs[i] & 255 : NONE;
        }

        void add(int sign) {
            if (length >= 0 && length < signs.length) {
                signs[length] = (byte) sign;
                length++;
            }
        }

        /** A number from 0 to 65535, in decimal digits. */
        void addNumber(int number) {
            boolean begun = false;
            for (int power = 10000; power > 0; power /= 10) {
                int digit = number / power % 10;
                begun = begun || digit > 0 || power == 1;
                if (begun) {
                    add('0' + digit);
                }
            }
        }

        void become(Text other) {
            empty();
            for (int i = 0; i < other.length(); i++) {
                add(other.at(i));
            }
        }

        /** Where the line's 10 is, or the end. */
        int lineEnd(int from) {
            int place = Math.max(from, 0);
            while (place < length && at(place) != '\n') {
                place++;
            }
            return place;
        }
    }

    /**
     * Names as numbers: their signs are digits of base 38, so that twelve fit into a long.
     * Holds the RESERVED names, the LABELS of the latest forge() without a FAULT, and those that are being found.
     */
    private static final class Names {
        private static final int BASE = 38;
        private static final int LENGTH_ROOM = 12;
        private static final String OPERANDS = "B C D E H L - A BC DE HL SP AF AF' IX IY I R NZ Z NC PO PE P M";
        private static final String WORDS_1 = "NOP EX DJNZ JR LD INC DEC RLCA RRCA RLA RRA DAA CPL SCF CCF HALT";
        private static final String WORDS_2 = "ADD ADC SUB SBC AND XOR OR CP RET POP EXX JP OUT IN DI EI CALL PUSH RST";
        private static final String WORDS_3 = "RLC RRC RL RR SLA SRA SRL BIT RES SET NEG RETN RETI IM RRD RLD";
        private static final String WORDS_4 = "LDI CPI INI OUTI LDD CPD IND OUTD LDIR CPIR INIR OTIR LDDR CPDR INDR OTDR";
        private static final String WORDS_5 = "ORG EQU DB DW DS IF ELSE ENDIF";

        private final long[] reserved = new long[W_BEHIND];
        private final long[] keys = new long[LABEL_ROOM];
        private final int[] values = new int[LABEL_ROOM];
        private final long[] foundKeys = new long[LABEL_ROOM];
        private final int[] foundValues = new int[LABEL_ROOM];
        private int count = 0;
        private int found = 0;

        Names() {
            reserve(OPERANDS, 1);
            int id = reserve(WORDS_1, W_FIRST);
            id = reserve(WORDS_2, id);
            id = reserve(WORDS_3, id);
            id = reserve(WORDS_4, id);
            reserve(WORDS_5, id);
        }

        /** Takes the list's names, from an id on; "-" is none, its id has no name. Answers the id behind the last. */
        private int reserve(String list, int firstId) {
            int id = firstId;
            for (int i = 0; i < list.length(); i++) {
                char sign = list.charAt(i);
                if (sign == ' ') {
                    id++;
                } else if (sign != '-' && id >= 0 && id < reserved.length) {
                    reserved[id] = longer(reserved[id], sign);
                }
            }
            return id + 1;
        }

        /** 0 to 37 of a sign that stands in names (0 the ' of AF'), -1 of another. */
        static int digitOf(int sign) {
            if (sign >= 'A' && sign <= 'Z') {
                return sign - 'A' + 1;
            }
            if (sign >= 'a' && sign <= 'z') {
                return sign - 'a' + 1;
            }
            if (sign >= '0' && sign <= '9') {
                return sign - '0' + 27;
            }
            if (sign == '_') {
                return 37;
            }
            return sign == '\'' ? 0 : NONE;
        }

        static long longer(long key, int sign) {
            return key * BASE + Math.max(digitOf(sign), 0);
        }

        /** Sign k of the name with that key, -1 where there is none. */
        static int signOf(long key, int k) {
            int length = 0;
            for (long rest = key; rest > 0 && length < LENGTH_ROOM; rest /= BASE) {
                length++;
            }
            if (k < 0 || k >= length) {
                return NONE;
            }
            long rest = key;
            for (int i = length - 1; i > k; i--) {
                rest /= BASE;
            }
            int digit = (int) (rest % BASE);
            if (digit == 0) {
                return '\'';
            }
            if (digit == 37) {
                return '_';
            }
            return digit < 27 ? 'A' + digit - 1 : '0' + digit - 27;
        }

        void append(Text text, int id) {
            long key = id >= 0 && id < reserved.length ? reserved[id] : 0;
            for (int k = 0; k < LENGTH_ROOM; k++) {
                int sign = signOf(key, k);
                if (sign >= 0) {
                    text.add(sign);
                }
            }
        }

        /** The id of a RESERVED name, 0 of another. */
        int idOf(long key) {
            if (key > 0) {
                for (int id = 1; id < reserved.length; id++) {
                    if (reserved[id] == key) {
                        return id;
                    }
                }
            }
            return 0;
        }

        void beginFinding() {
            found = 0;
        }

        /** Whether a new LABEL can have that name. */
        boolean isFree(long key) {
            return idOf(key) == 0 && find(key) < 0 && found < LABEL_ROOM;
        }

        void tell(long key, int value) {
            if (found >= 0 && found < LABEL_ROOM) {
                foundKeys[found] = key;
                foundValues[found] = value;
                found++;
            }
        }

        /** The number of a LABEL among those that are being found, -1 if it is none. */
        int find(long key) {
            for (int i = 0; i < found && i < LABEL_ROOM; i++) {
                if (foundKeys[i] == key) {
                    return i;
                }
            }
            return NONE;
        }

        int foundValue(int i) {
            return i >= 0 && i < found && i < LABEL_ROOM ? foundValues[i] : 0;
        }

        /** The LABELS that were found take the others' place. */
        void keepFound() {
            for (int i = 0; i < found && i < LABEL_ROOM; i++) {
                keys[i] = foundKeys[i];
                values[i] = foundValues[i];
            }
            count = found;
        }

        int count() {
            return count;
        }

        int labelValue(int i) {
            return i >= 0 && i < count && i < LABEL_ROOM ? values[i] : 0;
        }

        long labelKey(int i) {
            return i >= 0 && i < count && i < LABEL_ROOM ? keys[i] : 0;
        }
    }

    /** The FAULT of the line that is being read: the first by place, of one place the lesser. */
    private static final class Faults {
        private int line = 0;
        private int place = 0;
        private int code = 0;

        void begin() {
            line = 0;
            place = 0;
            code = 0;
        }

        void add(int inLine, int at, int which) {
            if (code == 0 || at < place || at == place && which < code) {
                line = inLine;
                place = at;
                code = which;
            }
        }

        boolean any() {
            return code != 0;
        }

        int line() {
            return line;
        }

        int place() {
            return place;
        }

        int code() {
            return code;
        }
    }

    /**
     * One line of SOURCE, cut into TOKENS. Kinds are END, BAD (where no token begins), NAME, NUMBER, TEXT;
     * else the sign itself, with one < for << and one > for >>. END or BAD is the last one, always.
     */
    private static final class Tokens {
        static final int END = 0;
        static final int BAD = 1;
        static final int NAME = 2;
        static final int NUMBER = 3;
        static final int TEXT = 4;
        static final int NO_TOKEN = 1;
        static final int NOT_HERE = 2;
        private static final String SIGNS = "(),:+-*/&|^~@";

        private final Text source;
        private final Faults faults;
        private final byte[] kinds = new byte[SOURCE_ROOM + 1];
        private final int[] places = new int[SOURCE_ROOM + 1];
        private final long[] values = new long[SOURCE_ROOM + 1];
        private int count = 0;
        private int line = 0;

        Tokens(Text source, Faults faults) {
            this.source = source;
            this.faults = faults;
        }

        void beginLine(int number) {
            line = number;
            count = 0;
        }

        /** Cuts what stands from a place up to the line's end. */
        void cut(int from, int end) {
            count = 0;
            int place = from;
            while (place < end && source.at(place) != ';') {
                int behind = isBlank(source.at(place)) ? place + 1 : takeToken(place);
                if (behind <= place) {
                    append(BAD, place, 0);
                    return;
                }
                place = behind;
            }
            append(END, end, 0);
        }

        private void append(int kind, int place, long value) {
            if (count >= 0 && count < kinds.length && count < places.length && count < values.length) {
                kinds[count] = (byte) kind;
                places[count] = place;
                values[count] = value;
                count++;
            }
        }

        /** Answers the place behind the token, -1 where none begins. */
        private int takeToken(int place) {
            int sign = source.at(place);
            if (beginsName(sign)) {
                return takeName(place);
            }
            if (sign >= '0' && sign <= '9') {
                return takeNumber(place, place, 10);
            }
            switch (sign) {
                case '$':
                    return takeNumber(place, place + 1, 16);
                case '%':
                    return takeNumber(place, place + 1, 2);
                case '\'':
                    return takeQuoted(place);
                case '"':
                    return takeText(place);
                case '<':
                case '>':
                    if (source.at(place + 1) != sign) {
                        return NONE;
                    }
                    append(sign, place, 0);
                    return place + 2;
                default:
                    if (sign < 0 || SIGNS.indexOf((char) sign) < 0) {
                        return NONE;
                    }
                    append(sign, place, 0);
                    return place + 1;
            }
        }

        private int takeName(int place) {
            int behind = nameEnd(place);
            long key = keyOf(place, behind);
            if (key == 0) {
                return NONE;
            }
            boolean isAf = behind == place + 2 && key == Names.longer(Names.longer(0, 'A'), 'F');
            if (isAf && source.at(behind) == '\'') {
                key = Names.longer(key, '\'');
                behind++;
            }
            append(NAME, place, key);
            return behind;
        }

        private int takeNumber(int place, int from, int base) {
            int value = 0;
            int at = from;
            int digit = digitAt(at);
            while (at < source.length() && digit >= 0 && digit < base) {
                value = Math.min(value * base + digit, MEMORY_SIZE);
                at++;
                digit = digitAt(at);
            }
            if (at == from || value >= MEMORY_SIZE) {
                return NONE;
            }
            append(NUMBER, place, value);
            return at;
        }

        /** 0 to 15 of a digit, A to F too; -1 or above 15 of what is none. */
        private int digitAt(int place) {
            int digit = Names.digitOf(source.at(place));
            if (digit >= 27 && digit <= 36) {
                return digit - 27;
            }
            return digit >= 1 && digit <= 6 ? digit + 9 : NONE;
        }

        private int takeQuoted(int place) {
            int sign = source.at(place + 1);
            if (sign < 32 || sign > 126 || source.at(place + 2) != '\'') {
                return NONE;
            }
            append(NUMBER, place, sign);
            return place + 3;
        }

        /** A TEXT's value is how many signs it has. */
        private int takeText(int place) {
            int at = place + 1;
            while (at < source.length() && source.at(at) >= 32 && source.at(at) <= 126 && source.at(at) != '"') {
                at++;
            }
            if (source.at(at) != '"') {
                return NONE;
            }
            append(TEXT, place, at - place - 1);
            return at + 1;
        }

        private static boolean isBlank(int sign) {
            return sign == ' ' || sign == 9 || sign == 13;
        }

        private static boolean beginsName(int sign) {
            int digit = Names.digitOf(sign);
            return digit >= 1 && digit <= 26 || digit == 37;
        }

        private int skipBlanks(int from) {
            int place = from;
            while (place < source.length() && isBlank(source.at(place))) {
                place++;
            }
            return place;
        }

        /** Where the name that begins there ends; the place itself where none begins. */
        private int nameEnd(int from) {
            int place = from;
            if (beginsName(source.at(place))) {
                while (place < source.length() && Names.digitOf(source.at(place)) > 0) {
                    place++;
                }
            }
            return place;
        }

        /** The key of the name between two places, without the ' of AF'; 0 if it has no sign, or more than 12. */
        private long keyOf(int from, int behind) {
            long key = 0;
            if (behind - from <= Names.LENGTH_ROOM) {
                for (int place = from; place < behind; place++) {
                    key = Names.longer(key, source.at(place));
                }
            }
            return key;
        }

        /** Where the name stands that may be the IF, ELSE, ENDIF of a line that is not done; -1 if none does. */
        int rulingPlace(int from) {
            int first = skipBlanks(from);
            int behind = nameEnd(first);
            int colon = skipBlanks(behind);
            if (behind == first || source.at(colon) != ':') {
                return behind == first ? NONE : first;
            }
            int second = skipBlanks(colon + 1);
            return nameEnd(second) == second ? NONE : second;
        }

        long keyAt(int place) {
            return keyOf(place, nameEnd(place));
        }

        int kind(int t) {
            return t >= 0 && t < count && t < kinds.length ? kinds[t] : END;
        }

        int place(int t) {
            return t >= 0 && t < count && t < places.length ? places[t] : 0;
        }

        long value(int t) {
            return t >= 0 && t < count && t < values.length ? values[t] : 0;
        }

        int count() {
            return count;
        }

        boolean endsOperand(int t) {
            return kind(t) == END || kind(t) == ',';
        }

        void blame(int t, int code) {
            faults.add(line, place(t), code);
        }

        void blamePlace(int place, int code) {
            faults.add(line, place, code);
        }

        /** Token t cannot stand where it does. */
        void refuse(int t) {
            faults.add(line, place(t), kind(t) == BAD ? NO_TOKEN : NOT_HERE);
        }
    }

    /** The IFs that are open: which of their parts are done. */
    private static final class Conditions {
        private static final int DEEPEST = 8;
        private static final int DONE = 1;
        private static final int ELSE_SEEN = 2;
        private static final int OUTSIDE_DONE = 4;

        private final int[] states = new int[DEEPEST];
        private int depth = 0;

        void begin() {
            depth = 0;
        }

        boolean anyOpen() {
            return depth > 0;
        }

        private int latest() {
            return depth > 0 && depth <= DEEPEST ? states[depth - 1] : DONE | OUTSIDE_DONE;
        }

        boolean done() {
            return (latest() & DONE) != 0;
        }

        /** Whether IF, ELSE, ENDIF can stand now. */
        boolean allows(int word) {
            if (word == W_IF) {
                return depth < DEEPEST;
            }
            return depth > 0 && (word == W_ENDIF || (latest() & ELSE_SEEN) == 0);
        }

        /** Goes over to what stands behind an IF (yes tells what its exp says), ELSE or ENDIF. */
        void pass(int word, boolean yes) {
            if (!allows(word)) {
                return;
            }
            if (word == W_IF) {
                int outside = done() ? OUTSIDE_DONE : 0;
                depth++;
                change(outside | (outside != 0 && yes ? DONE : 0));
            } else if (word == W_ENDIF) {
                depth--;
            } else {
                boolean turns = (latest() & OUTSIDE_DONE) != 0;
                change((turns ? latest() ^ DONE : latest()) | ELSE_SEEN);
            }
        }

        private void change(int state) {
            if (depth > 0 && depth <= DEEPEST) {
                states[depth - 1] = state;
            }
        }
    }

    /** Reads an exp and finds its value; operators wait on one stack, values on another. */
    private static final class Expression {
        private static final int DEEPEST = 40;
        // At most 41 rows of six waiting operators, and the 40 signs that open the rows.
        private static final int STACK_ROOM = 320;
        private static final int NEGATE = 'm';
        private static final int TERM_LEVEL = 6;
        private static final int UNARY_LEVEL = 7;
        private static final int NOT_KNOWN = 4;
        private static final int OUT_OF_RANGE = 5;

        private final Tokens tokens;
        private final Names names;
        private final int[] waiting = new int[STACK_ROOM];
        private final int[] waitingTokens = new int[STACK_ROOM];
        private final int[] values = new int[STACK_ROOM];
        private final boolean[] knowns = new boolean[STACK_ROOM];
        private int waits = 0;
        private int depth = 0;
        private int opened = 0;
        private int parentheses = 0;
        private int here = 0;
        private int trouble = 0;
        private int troubleToken = 0;

        Expression(Tokens tokens, Names names) {
            this.tokens = tokens;
            this.names = names;
        }

        /**
         * Reads the exp from token t on, as long as it goes; @ is the address. Answers the token behind it,
         * -1 where one cannot stand. If it reports, what is not known, or / by 0, is a FAULT.
         */
        int read(int t, int address, boolean reports) {
            begin(address);
            boolean wantsValue = true;
            boolean goesOn = true;
            int at = t;
            while (goesOn && at < tokens.count()) {
                int kind = tokens.kind(at);
                int level = levelOf(kind);
                if (wantsValue && (kind == '(' || kind == '~' || kind == '-')) {
                    goesOn = open(kind, at);
                } else if (wantsValue) {
                    goesOn = takeValue(kind, at);
                    if (goesOn) {
                        settle(TERM_LEVEL);
                        wantsValue = false;
                    }
                } else if (kind == ')' && parentheses > 0) {
                    settle(1);
                    close();
                    settle(TERM_LEVEL);
                } else if (level > 0 && level < UNARY_LEVEL) {
                    settle(level);
                    hold(kind, at);
                    wantsValue = true;
                } else {
                    goesOn = false;
                }
                at += goesOn ? 1 : 0;
            }
            boolean whole = !wantsValue && parentheses == 0;
            if (whole) {
                settle(1);
            } else {
                tokens.refuse(at);
            }
            if (reports && trouble > 0) {
                tokens.blame(troubleToken, trouble);
            }
            return whole ? at : NONE;
        }

        private void begin(int address) {
            waits = 0;
            depth = 0;
            opened = 0;
            parentheses = 0;
            here = address;
            trouble = 0;
        }

        int value() {
            return values[0];
        }

        boolean known() {
            return knowns[0];
        }

        /** How tightly an operator binds; 0 of what is none. */
        private static int levelOf(int operator) {
            switch (operator) {
                case '|':
                    return 1;
                case '^':
                    return 2;
                case '&':
                    return 3;
                case '<':
                case '>':
                    return 4;
                case '+':
                case '-':
                    return 5;
                case '*':
                case '/':
                    return 6;
                case '~':
                case NEGATE:
                    return UNARY_LEVEL;
                default:
                    return 0;
            }
        }

        private boolean open(int kind, int at) {
            if (opened >= DEEPEST) {
                return false;
            }
            opened++;
            parentheses += kind == '(' ? 1 : 0;
            hold(kind == '-' ? NEGATE : kind, at);
            return true;
        }

        /** Takes the waiting ( away, behind which all is settled. */
        private void close() {
            waits--;
            parentheses--;
            opened--;
        }

        private void hold(int operator, int at) {
            if (waits >= 0 && waits < STACK_ROOM) {
                waiting[waits] = operator;
                waitingTokens[waits] = at;
                waits++;
            }
        }

        private boolean takeValue(int kind, int at) {
            int value = here;
            boolean known = true;
            if (kind == Tokens.NUMBER) {
                value = (int) tokens.value(at);
            } else if (kind == Tokens.NAME) {
                if (names.idOf(tokens.value(at)) > 0) {
                    return false;
                }
                int label = names.find(tokens.value(at));
                known = label >= 0;
                value = names.foundValue(label);
                if (!known && trouble == 0) {
                    trouble = NOT_KNOWN;
                    troubleToken = at;
                }
            } else if (kind != '@') {
                return false;
            }
            if (depth < 0 || depth >= STACK_ROOM) {
                return false;
            }
            values[depth] = value;
            knowns[depth] = known;
            depth++;
            return true;
        }

        /** Does the operators that wait and bind at least as tightly as that level. */
        private void settle(int level) {
            while (waits > 0 && waits <= STACK_ROOM && levelOf(waiting[waits - 1]) >= level) {
                waits--;
                int operator = waiting[waits];
                if (operator == '~' || operator == NEGATE) {
                    turn(operator);
                } else {
                    join(operator, waitingTokens[waits]);
                }
            }
        }

        private void turn(int operator) {
            opened--;
            if (depth > 0 && depth <= STACK_ROOM) {
                int value = values[depth - 1];
                values[depth - 1] = operator == '~' ? ~value : -value;
            }
        }

        private void join(int operator, int at) {
            if (depth < 2 || depth > STACK_ROOM) {
                return;
            }
            depth--;
            int a = values[depth - 1];
            int b = values[depth];
            boolean known = knowns[depth - 1] && knowns[depth];
            int result = 0;
            switch (operator) {
                case '|':
                    result = a | b;
                    break;
                case '^':
                    result = a ^ b;
                    break;
                case '&':
                    result = a & b;
                    break;
                case '<':
                    result = a << (b & 31);
                    break;
                case '>':
                    result = a >> (b & 31);
                    break;
                case '+':
                    result = a + b;
                    break;
                case '-':
                    result = a - b;
                    break;
                case '*':
                    result = a * b;
                    break;
                default:
                    known = known && b != 0;
                    result = b == 0 ? 0 : a / b;
                    // It is done right behind its divisor, and a name that is not known there makes it no 0:
                    // so the first trouble that is met is the first by place.
                    if (b == 0 && knowns[depth] && trouble == 0) {
                        trouble = OUT_OF_RANGE;
                        troubleToken = at;
                    }
                    break;
            }
            values[depth - 1] = result;
            knowns[depth - 1] = known;
        }
    }

    /** Reads the operands of one statement, two at most. */
    private static final class Operands {
        private static final int MOST = 2;

        private final Tokens tokens;
        private final Names names;
        private final Expression expression;
        private final int[] kinds = new int[MOST];
        private final int[] values = new int[MOST];
        private final int[] places = new int[MOST];
        private final boolean[] knowns = new boolean[MOST];
        private boolean negates = false;
        private int count = 0;

        Operands(Tokens tokens, Names names, Expression expression) {
            this.tokens = tokens;
            this.names = names;
            this.expression = expression;
        }

        void begin() {
            count = 0;
            for (int i = 0; i < MOST; i++) {
                kinds[i] = 0;
                values[i] = 0;
                places[i] = 0;
                knowns[i] = true;
            }
        }

        /** Reads the operand from token t on. Answers the token behind it, -1 where one cannot stand. */
        int read(int t, int here, boolean report) {
            if (count < 0 || count >= MOST) {
                return NONE;
            }
            int last = closing(t);
            int from = classify(t, last);
            int behind = last < 0 ? t + 1 : last;
            if (from >= 0) {
                behind = expression.read(from, here, report);
                if (behind < 0) {
                    return NONE;
                }
                values[count] = negates ? -expression.value() : expression.value();
                knowns[count] = expression.known();
                places[count] = tokens.place(from);
            }
            count++;
            if (last >= 0 && behind != last) {
                tokens.refuse(behind);
                return NONE;
            }
            return last < 0 ? behind : last + 1;
        }

        /** The token ) of an operand that is a place in memory, -1 if it is none. */
        private int closing(int t) {
            int open = 0;
            for (int at = t; at < tokens.count(); at++) {
                int kind = tokens.kind(at);
                if (kind == '(') {
                    open++;
                } else if (kind == ')') {
                    open--;
                }
                if (open <= 0) {
                    return at > t && tokens.endsOperand(at + 1) ? at : NONE;
                }
            }
            return NONE;
        }

        /** Finds the operand's kind. Answers the token where its exp begins, -1 if it has none. */
        private int classify(int t, int last) {
            if (count < 0 || count >= MOST) {
                return NONE;
            }
            int at = last < 0 ? t : t + 1;
            int name = tokens.kind(at) == Tokens.NAME ? names.idOf(tokens.value(at)) : 0;
            int behind = tokens.kind(at + 1);
            negates = false;
            if (last < 0) {
                boolean alone = name > 0 && name <= K_M && tokens.endsOperand(at + 1);
                kinds[count] = alone ? name : K_EXP;
                return alone ? NONE : at;
            }
            if (last == at + 1 && placeOf(name) > 0) {
                kinds[count] = placeOf(name);
                return NONE;
            }
            if ((name == K_IX || name == K_IY) && (behind == '+' || behind == '-')) {
                kinds[count] = name == K_IX ? K_NEAR_IX : K_NEAR_IY;
                negates = behind == '-';
                return at + 2;
            }
            kinds[count] = K_PLACE;
            return at;
        }

        private static int placeOf(int name) {
            switch (name) {
                case K_HL:
                    return K_AT_HL;
                case K_BC:
                    return K_AT_BC;
                case K_DE:
                    return K_AT_DE;
                case K_SP:
                    return K_AT_SP;
                case K_C:
                    return K_AT_C;
                case K_IX:
                    return K_AT_IX;
                case K_IY:
                    return K_AT_IY;
                default:
                    return 0;
            }
        }

        int count() {
            return count;
        }

        /** The kind of operand i; (IX) is (IX+0), but in JP. */
        int kind(int i, int word) {
            int kind = i >= 0 && i < MOST ? kinds[i] : 0;
            if (word != W_JP && kind == K_AT_IX) {
                return K_NEAR_IX;
            }
            return word != W_JP && kind == K_AT_IY ? K_NEAR_IY : kind;
        }

        int value(int i) {
            return i >= 0 && i < MOST ? values[i] : 0;
        }

        boolean known(int i) {
            return i >= 0 && i < MOST && knowns[i];
        }

        int place(int i) {
            return i >= 0 && i < MOST ? places[i] : 0;
        }
    }

    /**
     * The tables: of each code (where it stands, and the octet) its word and the kinds of its operands.
     * A code is group * 256 + octet.
     */
    private static final class Shapes {
        private final int[] shapes = new int[CODES];
        private final int[] next = new int[CODES];
        private final int[] first = new int[W_BEHIND];

        Shapes() {
            Arrays.fill(first, NONE);
            for (int code = CODES - 1; code >= 0; code--) {
                int shape = shapeOf(code >> 8, code & 255);
                int word = shape >> 16;
                shapes[code] = shape;
                next[code] = NONE;
                if (word >= 0 && word < first.length) {
                    next[code] = first[word];
                    first[word] = code;
                }
            }
        }

        private static int shape(int word, int one, int other) {
            return word << 16 | one << 8 | other;
        }

        private static int octetKind(int y) {
            return K_B + y;
        }

        private static int pairKind(int p) {
            return K_BC + p;
        }

        private static int pushedKind(int p) {
            return p == 3 ? K_AF : K_BC + p;
        }

        private static int conditionKind(int y) {
            if (y == 3) {
                return K_C;
            }
            return y < 3 ? K_NZ + y : K_PO + y - 4;
        }

        private static int shapeOf(int group, int octet) {
            switch (group) {
                case G_PLAIN:
                    return plain(octet);
                case G_BITS:
                    return bits(octet);
                case G_EXTRA:
                    return extra(octet);
                case G_IX:
                    return indexed(plain(octet), K_IX, K_NEAR_IX, K_AT_IX);
                case G_IY:
                    return indexed(plain(octet), K_IY, K_NEAR_IY, K_AT_IY);
                case G_IX_BITS:
                    return (octet & 7) == 6 ? indexed(bits(octet), K_IX, K_NEAR_IX, K_AT_IX) : NONE;
                default:
                    return (octet & 7) == 6 ? indexed(bits(octet), K_IY, K_NEAR_IY, K_AT_IY) : NONE;
            }
        }

        private static int plain(int octet) {
            int y = octet >> 3 & 7;
            int z = octet & 7;
            switch (octet >> 6) {
                case 0:
                    return z < 3 ? early(y, z) : middle(y, z);
                case 1:
                    return octet == 118 ? shape(W_HALT, 0, 0) : shape(W_LD, octetKind(y), octetKind(z));
                case 2:
                    return arithmetic(y, octetKind(z));
                default:
                    return late(y, z);
            }
        }

        private static int arithmetic(int y, int kind) {
            boolean namesA = y == 0 || y == 1 || y == 3;
            return namesA ? shape(W_ADD + y, K_A, kind) : shape(W_ADD + y, kind, 0);
        }

        private static int early(int y, int z) {
            if (z == 1) {
                return y % 2 == 0 ? shape(W_LD, pairKind(y / 2), K_WORD) : shape(W_ADD, K_HL, pairKind(y / 2));
            }
            if (z == 2) {
                return throughMemory(y);
            }
            switch (y) {
                case 0:
                    return shape(W_NOP, 0, 0);
                case 1:
                    return shape(W_EX, K_AF, K_AF_OTHER);
                case 2:
                    return shape(W_DJNZ, K_TARGET, 0);
                case 3:
                    return shape(W_JR, K_TARGET, 0);
                default:
                    return shape(W_JR, conditionKind(y - 4), K_TARGET);
            }
        }

        private static int throughMemory(int y) {
            switch (y) {
                case 0:
                    return shape(W_LD, K_AT_BC, K_A);
                case 1:
                    return shape(W_LD, K_A, K_AT_BC);
                case 2:
                    return shape(W_LD, K_AT_DE, K_A);
                case 3:
                    return shape(W_LD, K_A, K_AT_DE);
                case 4:
                    return shape(W_LD, K_MEMORY, K_HL);
                case 5:
                    return shape(W_LD, K_HL, K_MEMORY);
                case 6:
                    return shape(W_LD, K_MEMORY, K_A);
                default:
                    return shape(W_LD, K_A, K_MEMORY);
            }
        }

        private static int middle(int y, int z) {
            switch (z) {
                case 3:
                    return shape(y % 2 == 0 ? W_INC : W_DEC, pairKind(y / 2), 0);
                case 4:
                    return shape(W_INC, octetKind(y), 0);
                case 5:
                    return shape(W_DEC, octetKind(y), 0);
                case 6:
                    return shape(W_LD, octetKind(y), K_OCTET);
                default:
                    return shape(W_RLCA + y, 0, 0);
            }
        }

        private static int late(int y, int z) {
            switch (z) {
                case 0:
                    return shape(W_RET, conditionKind(y), 0);
                case 1:
                    return y % 2 == 0 ? shape(W_POP, pushedKind(y / 2), 0) : lateOdd(y / 2);
                case 2:
                    return shape(W_JP, conditionKind(y), K_WORD);
                case 3:
                    return lateMixed(y);
                case 4:
                    return shape(W_CALL, conditionKind(y), K_WORD);
                case 5:
                    if (y % 2 == 0) {
                        return shape(W_PUSH, pushedKind(y / 2), 0);
                    }
                    return y == 1 ? shape(W_CALL, K_WORD, 0) : NONE;
                case 6:
                    return arithmetic(y, K_OCTET);
                default:
                    return shape(W_RST, K_RST, 0);
            }
        }

        private static int lateOdd(int p) {
            switch (p) {
                case 0:
                    return shape(W_RET, 0, 0);
                case 1:
                    return shape(W_EXX, 0, 0);
                case 2:
                    return shape(W_JP, K_AT_HL, 0);
                default:
                    return shape(W_LD, K_SP, K_HL);
            }
        }

        private static int lateMixed(int y) {
            switch (y) {
                case 0:
                    return shape(W_JP, K_WORD, 0);
                case 1:
                    return NONE;
                case 2:
                    return shape(W_OUT, K_PORT, K_A);
                case 3:
                    return shape(W_IN, K_A, K_PORT);
                case 4:
                    return shape(W_EX, K_AT_SP, K_HL);
                case 5:
                    return shape(W_EX, K_DE, K_HL);
                case 6:
                    return shape(W_DI, 0, 0);
                default:
                    return shape(W_EI, 0, 0);
            }
        }

        private static int bits(int octet) {
            int y = octet >> 3 & 7;
            int kind = octetKind(octet & 7);
            if (octet >> 6 > 0) {
                return shape(W_BIT + (octet >> 6) - 1, K_BIT, kind);
            }
            if (y == 6) {
                return NONE;
            }
            return shape(y == 7 ? W_SRL : W_RLC + y, kind, 0);
        }

        private static int extra(int octet) {
            int y = octet >> 3 & 7;
            int z = octet & 7;
            if (octet >> 6 == 2) {
                return y >= 4 && z < 4 ? shape(W_LDI + (y - 4) * 4 + z, 0, 0) : NONE;
            }
            if (octet >> 6 != 1) {
                return NONE;
            }
            switch (z) {
                case 0:
                    return y == 6 ? NONE : shape(W_IN, octetKind(y), K_AT_C);
                case 1:
                    return y == 6 ? NONE : shape(W_OUT, K_AT_C, octetKind(y));
                case 2:
                    return shape(y % 2 == 0 ? W_SBC : W_ADC, K_HL, pairKind(y / 2));
                case 3:
                    if (y / 2 == 2) {
                        return NONE;
                    }
                    return y % 2 == 0 ? shape(W_LD, K_MEMORY, pairKind(y / 2)) : shape(W_LD, pairKind(y / 2), K_MEMORY);
                case 4:
                    return y == 0 ? shape(W_NEG, 0, 0) : NONE;
                case 5:
                    return y < 2 ? shape(W_RETN + y, 0, 0) : NONE;
                case 6:
                    return y == 0 || y == 2 || y == 3 ? shape(W_IM, K_IM, 0) : NONE;
                default:
                    return extraLast(y);
            }
        }

        private static int extraLast(int y) {
            switch (y) {
                case 0:
                    return shape(W_LD, K_I, K_A);
                case 1:
                    return shape(W_LD, K_R, K_A);
                case 2:
                    return shape(W_LD, K_A, K_I);
                case 3:
                    return shape(W_LD, K_A, K_R);
                case 4:
                    return shape(W_RRD, 0, 0);
                case 5:
                    return shape(W_RLD, 0, 0);
                default:
                    return NONE;
            }
        }

        /** The same with IX for HL and (IX+d) for (HL), or IY; -1 where there is neither. */
        private static int indexed(int shape, int pair, int near, int target) {
            int word = shape >> 16;
            int one = shape >> 8 & 255;
            int other = shape & 255;
            boolean has = one == K_HL || one == K_AT_HL || other == K_HL || other == K_AT_HL;
            if (shape < 0 || !has || word == W_EX && one == K_DE) {
                return NONE;
            }
            int place = word == W_JP ? target : near;
            return shape(word, turned(one, pair, place), turned(other, pair, place));
        }

        private static int turned(int kind, int pair, int place) {
            if (kind == K_HL) {
                return pair;
            }
            return kind == K_AT_HL ? place : kind;
        }

        boolean has(int code) {
            return code >= 0 && code < CODES && shapes[code] >= 0;
        }

        private int shapeAt(int code) {
            return has(code) ? shapes[code] : 0;
        }

        int word(int code) {
            return shapeAt(code) >> 16;
        }

        /** The kind of operand 0 or 1, 0 where there is none. */
        int kind(int code, int i) {
            return i == 0 ? shapeAt(code) >> 8 & 255 : shapeAt(code) & 255;
        }

        /** The least code of a word with such operands, as they are read; -1 if there is none. */
        int find(int word, int one, int other) {
            int code = word >= 0 && word < first.length ? first[word] : NONE;
            for (int i = 0; i < CODES && code >= 0 && code < CODES; i++) {
                if (asRead(kind(code, 0)) == one && asRead(kind(code, 1)) == other && has(code)) {
                    return code;
                }
                code = next[code];
            }
            return NONE;
        }

        private static int asRead(int kind) {
            if (kind >= K_OCTET && kind <= K_IM) {
                return K_EXP;
            }
            return kind == K_PORT || kind == K_MEMORY ? K_PLACE : kind;
        }

        int size(int code) {
            int lead = 2;
            if (code >> 8 == G_PLAIN) {
                lead = 1;
            } else if (code >> 8 >= G_IX_BITS) {
                lead = 3;
            }
            return lead + lengthOf(kind(code, 0)) + lengthOf(kind(code, 1));
        }

        private static int lengthOf(int kind) {
            switch (kind) {
                case K_WORD:
                case K_MEMORY:
                    return 2;
                case K_OCTET:
                case K_TARGET:
                case K_PORT:
                case K_NEAR_IX:
                case K_NEAR_IY:
                    return 1;
                default:
                    return 0;
            }
        }
    }

    /** What stands at an address: an instruction, or DB and an octet. */
    private static final class Instruction {
        private final Memory memory;
        private final Shapes shapes;
        private final Names names;
        private boolean exists = false;
        private int opcode = 0;
        private int word = 0;
        private int first = 0;
        private int second = 0;
        private int distance = 0;
        private int number = 0;
        private int size = 1;

        Instruction(Memory memory, Shapes shapes, Names names) {
            this.memory = memory;
            this.shapes = shapes;
            this.names = names;
        }

        void look(int address) {
            int lead = memory.at(address);
            int group = groupOf(lead);
            int at = group == G_PLAIN ? address : address + 1;
            if ((group == G_IX || group == G_IY) && memory.at(at) == 203) {
                group = group == G_IX ? G_IX_BITS : G_IY_BITS;
                at += 2;
            }
            opcode = memory.at(at);
            int code = group << 8 | opcode;
            exists = shapes.has(code);
            word = exists ? shapes.word(code) : W_DB;
            first = exists ? shapes.kind(code, 0) : K_OCTET;
            second = exists ? shapes.kind(code, 1) : 0;
            size = exists ? shapes.size(code) : 1;
            int behind = at + 1;
            boolean isBits = group == G_IX_BITS || group == G_IY_BITS;
            distance = (byte) memory.at(isBits ? at - 1 : behind);
            if (isNear(first) && !isBits || isNear(second) && !isBits) {
                behind++;
            }
            number = exists ? numberOf(isNumber(first) ? first : second, behind) : lead;
        }

        private static int groupOf(int lead) {
            switch (lead) {
                case 203:
                    return G_BITS;
                case 237:
                    return G_EXTRA;
                case 221:
                    return G_IX;
                case 253:
                    return G_IY;
                default:
                    return G_PLAIN;
            }
        }

        private static boolean isNear(int kind) {
            return kind == K_NEAR_IX || kind == K_NEAR_IY;
        }

        private static boolean isNumber(int kind) {
            return kind >= K_OCTET && kind <= K_MEMORY;
        }

        private int numberOf(int kind, int at) {
            switch (kind) {
                case K_OCTET:
                case K_PORT:
                    return memory.at(at);
                case K_WORD:
                case K_MEMORY:
                    return memory.wordAt(at);
                case K_TARGET:
                    return at + 1 + (byte) memory.at(at) & 65535;
                case K_BIT:
                    return opcode >> 3 & 7;
                case K_RST:
                    return opcode & 56;
                case K_IM:
                    return Math.max((opcode >> 3 & 7) - 1, 0);
                default:
                    return 0;
            }
        }

        boolean exists() {
            return exists;
        }

        int word() {
            return word;
        }

        int first() {
            return first;
        }

        int second() {
            return second;
        }

        int distance() {
            return distance;
        }

        int number() {
            return number;
        }

        int size() {
            return size;
        }

        /** Writes it behind a text. */
        void appendTo(Text text) {
            names.append(text, word);
            if (first > 0) {
                text.add(' ');
                appendOperand(text, first);
            }
            if (second > 0) {
                text.add(',');
                appendOperand(text, second);
            }
        }

        private void appendOperand(Text text, int kind) {
            int name = insideOf(kind);
            boolean place = name != kind;
            if (place) {
                text.add('(');
            }
            if (isNumber(kind)) {
                text.addNumber(number);
            } else {
                names.append(text, name);
            }
            if (isNear(kind)) {
                text.add(distance < 0 ? '-' : '+');
                text.addNumber(Math.abs(distance));
            }
            if (place) {
                text.add(')');
            }
        }

        /** What stands within the parentheses of a place; the kind itself if it is none. */
        private static int insideOf(int kind) {
            switch (kind) {
                case K_AT_HL:
                    return K_HL;
                case K_AT_BC:
                    return K_BC;
                case K_AT_DE:
                    return K_DE;
                case K_AT_SP:
                    return K_SP;
                case K_AT_C:
                    return K_C;
                case K_AT_IX:
                case K_NEAR_IX:
                    return K_IX;
                case K_AT_IY:
                case K_NEAR_IY:
                    return K_IY;
                case K_PORT:
                case K_MEMORY:
                    return K_OCTET;
                default:
                    return kind;
            }
        }
    }

    /** Forges SOURCE into MEMORY: finds the LABELS, checks the numbers, and only then puts octets. */
    private static final class Forger {
        static final int FIND = 1;
        static final int CHECK = 2;
        static final int PUT = 3;
        private static final int TOLD_ALREADY = 3;
        private static final int OUT_OF_RANGE = 5;
        private static final int NO_SUCH_WORD = 6;
        private static final int NO_SUCH_PART = 7;
        private static final int BEYOND_MEMORY = 8;
        private static final int LINE_TOO_MANY = 9;

        private final Text source;
        private final Memory memory;
        private final Names names;
        private final Shapes shapes;
        private final Faults faults = new Faults();
        private final Conditions conditions = new Conditions();
        private final Tokens tokens;
        private final Expression expression;
        private final Operands operands;
        private int which = FIND;
        private int line = 0;
        private int address = 0;
        private int puts = 0;
        private int firstPut = 0;
        private int toldLines = 0;
        private int toldFirst = 0;
        private int toldBehind = 0;

        Forger(Text source, Memory memory, Names names, Shapes shapes) {
            this.source = source;
            this.memory = memory;
            this.names = names;
            this.shapes = shapes;
            tokens = new Tokens(source, faults);
            expression = new Expression(tokens, names);
            operands = new Operands(tokens, names, expression);
        }

        void begin() {
            faults.begin();
            names.beginFinding();
        }

        boolean failed() {
            return faults.any();
        }

        /** What forge() answers when the passes are done; without a FAULT their facts are told from now on. */
        int answer() {
            if (faults.any()) {
                return FAULT - faults.code();
            }
            names.keepFound();
            toldLines = line;
            toldFirst = firstPut;
            toldBehind = address;
            return puts;
        }

        int fact(int what) {
            switch (what) {
                case 0:
                    return faults.line();
                case 1:
                    return faults.place();
                case 2:
                    return toldLines;
                case 3:
                    return names.count();
                case 4:
                    return toldFirst;
                case 5:
                    return toldBehind;
                default:
                    return RANGE;
            }
        }

        /** Goes through all lines, up to the first one that has a FAULT. */
        void pass(int number) {
            which = number;
            line = 0;
            address = 0;
            puts = 0;
            firstPut = 0;
            conditions.begin();
            int from = 0;
            while (from < source.length() && !faults.any()) {
                int end = source.lineEnd(from);
                line++;
                tokens.beginLine(line);
                if (line > LINE_ROOM) {
                    tokens.blamePlace(from, LINE_TOO_MANY);
                } else if (conditions.done()) {
                    tokens.cut(from, end);
                    int t = tellLabel();
                    if (t >= 0) {
                        readStatement(t);
                    }
                } else {
                    passOver(from);
                }
                from = Math.max(from, end) + 1;
            }
            if (from >= source.length() && conditions.anyOpen()) {
                tokens.blamePlace(source.length(), NO_SUCH_PART);
            }
        }

        private void passOver(int from) {
            int place = tokens.rulingPlace(from);
            int word = place < 0 ? 0 : names.idOf(tokens.keyAt(place));
            if (word != W_IF && word != W_ELSE && word != W_ENDIF) {
                return;
            }
            if (!conditions.allows(word)) {
                tokens.blamePlace(place, NO_SUCH_PART);
            }
            conditions.pass(word, false);
        }

        /** Tells the line's LABEL, if it has one. Answers the token where the statement begins, -1 behind a FAULT. */
        private int tellLabel() {
            if (tokens.kind(0) != Tokens.NAME || tokens.kind(1) != ':') {
                return 0;
            }
            if (!canTell(0)) {
                return NONE;
            }
            tell(0, address);
            return 2;
        }

        private void readStatement(int t) {
            if (tokens.kind(t) == Tokens.END) {
                return;
            }
            if (tokens.kind(t) != Tokens.NAME) {
                tokens.refuse(t);
                return;
            }
            int word = names.idOf(tokens.value(t));
            if (tokens.kind(t + 1) == Tokens.NAME && names.idOf(tokens.value(t + 1)) == W_EQU) {
                equate(t);
                return;
            }
            if (word >= W_FIRST && word < W_ORG) {
                instruction(t, word);
                return;
            }
            switch (word) {
                case W_ORG:
                    origin(t);
                    break;
                case W_DB:
                    data(t, true);
                    break;
                case W_DW:
                    data(t, false);
                    break;
                case W_DS:
                    space(t);
                    break;
                case W_IF:
                case W_ELSE:
                case W_ENDIF:
                    condition(t, word);
                    break;
                default:
                    tokens.blame(t, NO_SUCH_WORD);
                    break;
            }
        }

        /** Whether token t can be a new LABEL's NAME; else it is a FAULT. */
        private boolean canTell(int t) {
            boolean free = which != FIND || names.isFree(tokens.value(t));
            if (!free) {
                tokens.blame(t, TOLD_ALREADY);
            }
            return free;
        }

        private void tell(int t, int value) {
            if (which == FIND) {
                names.tell(tokens.value(t), value);
            }
        }

        private boolean endsLine(int t) {
            if (tokens.kind(t) != Tokens.END) {
                tokens.refuse(t);
            }
            return tokens.kind(t) == Tokens.END;
        }

        /** Reads an exp; in the pass that is named it has to be known and from low to high. */
        private int readNumber(int t, int pass, int low, int high) {
            int behind = expression.read(t, address, which == pass);
            int value = expression.value();
            if (behind >= 0 && which == pass && expression.known() && (value < low || value > high)) {
                tokens.blame(t, OUT_OF_RANGE);
            }
            return behind;
        }

        private void equate(int t) {
            if (!canTell(t)) {
                return;
            }
            int behind = expression.read(t + 2, address, which == FIND);
            if (behind >= 0 && endsLine(behind)) {
                tell(t, expression.value());
            }
        }

        private void origin(int t) {
            int behind = readNumber(t + 1, FIND, 0, 65535);
            if (behind >= 0 && endsLine(behind)) {
                address = expression.value();
            }
        }

        private void data(int t, boolean octets) {
            int here = address;
            int at = t;
            boolean more = true;
            for (int items = 0; more && items < SOURCE_ROOM; items++) {
                int item = at + 1;
                if (octets && tokens.kind(item) == Tokens.TEXT) {
                    at = item + 1;
                    putText(here, item);
                    here += (int) tokens.value(item);
                } else {
                    at = readNumber(item, CHECK, octets ? -128 : -32768, octets ? 255 : 65535);
                    if (at < 0) {
                        return;
                    }
                    putNumber(here, octets ? 1 : 2, expression.value());
                    here += octets ? 1 : 2;
                }
                more = tokens.kind(at) == ',';
            }
            if (endsLine(at)) {
                goOn(t, here - address);
            }
        }

        private void space(int t) {
            int behind = readNumber(t + 1, FIND, 0, 65535);
            int size = expression.value();
            int octet = 0;
            if (behind >= 0 && tokens.kind(behind) == ',') {
                behind = readNumber(behind + 1, CHECK, -128, 255);
                octet = expression.value();
            }
            if (behind < 0 || !endsLine(behind) || faults.any()) {
                return;
            }
            if (which == PUT && size > 0) {
                memory.fill(address, size, octet);
                count(address, size);
            }
            goOn(t, size);
        }

        private void condition(int t, int word) {
            if (!conditions.allows(word)) {
                tokens.blame(t, NO_SUCH_PART);
                return;
            }
            int behind = t + 1;
            if (word == W_IF) {
                behind = expression.read(behind, address, which == FIND);
            }
            if (behind >= 0 && endsLine(behind)) {
                conditions.pass(word, expression.value() != 0);
            }
        }

        private void instruction(int t, int word) {
            operands.begin();
            int at = t + 1;
            boolean more = tokens.kind(at) != Tokens.END;
            for (int i = 1; more && i <= Operands.MOST; i++) {
                at = operands.read(at, address, which == CHECK);
                more = at >= 0 && tokens.kind(at) == ',' && i < Operands.MOST;
                at += more ? 1 : 0;
            }
            if (at < 0 || !endsLine(at)) {
                return;
            }
            int code = shapes.find(word, operands.kind(0, word), operands.kind(1, word));
            if (code < 0) {
                tokens.blame(t, NO_SUCH_WORD);
                return;
            }
            int size = shapes.size(code);
            if (which == CHECK) {
                checkOperands(code, size);
            } else if (which == PUT) {
                putInstruction(code, size);
            }
            goOn(t, size);
        }

        private void checkOperands(int code, int size) {
            for (int i = 0; i < operands.count(); i++) {
                int kind = shapes.kind(code, i);
                int value = operands.value(i);
                if (kind == K_TARGET) {
                    value = distance(value, size);
                }
                if (operands.known(i) && !fits(kind, value)) {
                    tokens.blamePlace(operands.place(i), OUT_OF_RANGE);
                }
            }
        }

        private int distance(int target, int size) {
            return (short) (target - address - size);
        }

        private static boolean fits(int kind, int value) {
            switch (kind) {
                case K_OCTET:
                case K_PORT:
                    return value >= -128 && value <= 255;
                case K_WORD:
                case K_MEMORY:
                    return value >= -32768 && value <= 65535;
                case K_TARGET:
                case K_NEAR_IX:
                case K_NEAR_IY:
                    return value >= -128 && value <= 127;
                case K_BIT:
                    return value >= 0 && value <= 7;
                case K_IM:
                    return value >= 0 && value <= 2;
                case K_RST:
                    return value >= 0 && value <= 56 && (value & 7) == 0;
                default:
                    return true;
            }
        }

        private void putInstruction(int code, int size) {
            int group = code >> 8;
            int at = address;
            if (group != G_PLAIN) {
                putNumber(at, 1, leadOf(group));
                at++;
            }
            boolean isBits = group == G_IX_BITS || group == G_IY_BITS;
            if (isBits) {
                putNumber(at, 1, 203);
                putNumber(at + 1, 1, operands.value(shapes.kind(code, 0) == K_BIT ? 1 : 0));
                at += 2;
            }
            putNumber(at, 1, code & 255 | withinOpcode(shapes.kind(code, 0), operands.value(0)));
            at++;
            for (int i = 0; i < operands.count(); i++) {
                int kind = shapes.kind(code, i);
                int length = isBits ? 0 : Shapes.lengthOf(kind);
                int value = operands.value(i);
                putNumber(at, length, kind == K_TARGET ? distance(value, size) : value);
                at += length;
            }
        }

        private static int leadOf(int group) {
            switch (group) {
                case G_BITS:
                    return 203;
                case G_EXTRA:
                    return 237;
                case G_IX:
                case G_IX_BITS:
                    return 221;
                default:
                    return 253;
            }
        }

        /** The bits of the opcode that a number sets which stands in no octet of its own. */
        private static int withinOpcode(int kind, int value) {
            switch (kind) {
                case K_BIT:
                    return value << 3;
                case K_RST:
                    return value;
                case K_IM:
                    return value == 0 ? 0 : value + 1 << 3;
                default:
                    return 0;
            }
        }

        /** In the last pass puts a number's octets, the lower one first. */
        private void putNumber(int at, int octets, int value) {
            for (int i = 0; which == PUT && i < octets; i++) {
                memory.store(at + i, value >> 8 * i);
                count(at + i, 1);
            }
        }

        private void putText(int at, int t) {
            int from = tokens.place(t) + 1;
            for (int i = 0; i < tokens.value(t); i++) {
                putNumber(at + i, 1, source.at(from + i));
            }
        }

        private void count(int at, int octets) {
            if (puts == 0) {
                firstPut = at;
            }
            puts += octets;
        }

        private void goOn(int t, int size) {
            if (address + size > MEMORY_SIZE) {
                tokens.blame(t, BEYOND_MEMORY);
            }
            address += size;
        }
    }

    /** The machine: registers, ports, REQUESTS, and the steps. */
    private static final class Machine {
        static final int STUCK = 0;
        static final int DONE = 1;
        static final int TAKEN = 2;
        static final int HALTED = 3;

        private final Memory memory;
        private final Instruction instruction;
        private final int[] registers = new int[REGISTERS];
        private final int[] inputs = new int[256];
        private final int[] outputs = new int[256];
        private long outputCount = 0;
        private boolean plainWaits = false;
        private boolean hardWaits = false;
        private int plainOctet = 0;
        // No PLAIN request is taken right behind an EI.
        private boolean justEnabled = false;

        Machine(Memory memory, Instruction instruction) {
            this.memory = memory;
            this.instruction = instruction;
            reset();
        }

        void reset() {
            Arrays.fill(registers, 0);
            Arrays.fill(inputs, 0);
            Arrays.fill(outputs, 0);
            registers[R_SP] = 65535;
            outputCount = 0;
            plainWaits = false;
            hardWaits = false;
            plainOctet = 0;
            justEnabled = false;
        }

        int registerAt(int r) {
            return r >= 0 && r < REGISTERS ? registers[r] : NONE;
        }

        /** The greatest number that fits into a register, -1 if there is none such. */
        static int mostOf(int r) {
            if (r < 0 || r >= REGISTERS) {
                return NONE;
            }
            if (r < R_I) {
                return 65535;
            }
            if (r < R_L1) {
                return 255;
            }
            return r == R_MODE ? 2 : 1;
        }

        int changeRegister(int r, int v) {
            int before = registerAt(r);
            if (r >= 0 && r < REGISTERS) {
                registers[r] = v;
            }
            return before;
        }

        int changeInput(int p, int v) {
            int before = inputs[p & 255];
            inputs[p & 255] = v;
            return before;
        }

        int outputAt(int p) {
            return p >= 0 && p < 256 ? outputs[p] : NONE;
        }

        long outputs() {
            return outputCount;
        }

        /** Lets a REQUEST wait. Answers whether one of its kind did so already. */
        boolean await(boolean hard, int v) {
            boolean before = hard ? hardWaits : plainWaits;
            if (hard) {
                hardWaits = true;
            } else {
                plainWaits = true;
                plainOctet = v;
            }
            return before;
        }

        /** A step. */
        int advance() {
            if (hardWaits || plainWaits && registers[R_L1] == 1 && !justEnabled) {
                takeRequest();
                return TAKEN;
            }
            int address = registers[R_PC];
            instruction.look(address);
            if (!instruction.exists()) {
                return STUCK;
            }
            boolean halts = instruction.word() == W_HALT;
            refresh(memory.at(address));
            registers[R_PC] = halts ? address : address + instruction.size() & 65535;
            justEnabled = instruction.word() == W_EI;
            execute(instruction.word(), instruction.first(), instruction.second(), address);
            return halts ? HALTED : DONE;
        }

        private void refresh(int lead) {
            boolean twice = lead == 203 || lead == 237 || lead == 221 || lead == 253;
            int r = registers[R_R];
            registers[R_R] = r & 128 | r + (twice ? 2 : 1) & 127;
        }

        private void takeRequest() {
            refresh(0);
            justEnabled = false;
            if (memory.at(registers[R_PC]) == 118) {
                registers[R_PC] = registers[R_PC] + 1 & 65535;
            }
            push(registers[R_PC]);
            registers[R_L1] = 0;
            if (hardWaits) {
                hardWaits = false;
                registers[R_PC] = 102;
                return;
            }
            plainWaits = false;
            registers[R_L2] = 0;
            if (registers[R_MODE] == 0) {
                registers[R_PC] = plainOctet & 56;
            } else if (registers[R_MODE] == 1) {
                registers[R_PC] = 56;
            } else {
                registers[R_PC] = memory.wordAt(256 * registers[R_I] + plainOctet);
            }
        }

        private void execute(int word, int first, int second, int address) {
            if (word >= W_ADD && word <= W_CP) {
                calculate(word, first, second);
            } else if (word >= W_RLCA && word <= W_RRA) {
                turnA(word - W_RLCA);
            } else if (word >= W_RLC && word <= W_SRL) {
                turn(word - W_RLC, first);
            } else if (word >= W_BIT && word <= W_SET) {
                handleBit(word, second);
            } else if (word >= W_LDI && word <= W_OTDR) {
                handleBlock((word - W_LDI) % 4, (word - W_LDI) / 4, address);
            } else if (word == W_LD) {
                transfer(first, second);
            } else if (word == W_INC || word == W_DEC) {
                change(first, word == W_INC ? 1 : -1);
            } else if (word >= W_RET && word <= W_RST || word == W_EX || word == W_DJNZ || word == W_JR) {
                executeFlow(word, first, second);
            } else {
                executeRest(word);
            }
        }

        private void executeFlow(int word, int first, int second) {
            switch (word) {
                case W_EX:
                    exchange(first, second);
                    break;
                case W_EXX:
                    for (int pair = R_BC; pair <= R_HL; pair++) {
                        swap(pair, pair + R_OTHER);
                    }
                    break;
                case W_PUSH:
                    push(pair(first));
                    break;
                case W_POP:
                    savePair(first, pop());
                    break;
                case W_OUT:
                    putOut(first == K_AT_C ? registers[R_BC] : instruction.number(), load(second));
                    break;
                case W_IN:
                    takeIn(first, second);
                    break;
                case W_DI:
                case W_EI:
                    registers[R_L1] = word == W_EI ? 1 : 0;
                    registers[R_L2] = word == W_EI ? 1 : 0;
                    break;
                case W_DJNZ:
                    save(K_B, load(K_B) - 1);
                    if (load(K_B) != 0) {
                        registers[R_PC] = instruction.number();
                    }
                    break;
                default:
                    jump(word, first);
                    break;
            }
        }

        private void executeRest(int word) {
            int a = load(K_A);
            int f = flags();
            switch (word) {
                case W_DAA:
                    adjust(a, f);
                    break;
                case W_CPL:
                    save(K_A, ~a);
                    setFlags(f & (F_S | F_Z | F_P | F_C) | F_H | F_N | ~a & (F_Y | F_X));
                    break;
                case W_SCF:
                    setFlags(f & (F_S | F_Z | F_P) | a & (F_Y | F_X) | F_C);
                    break;
                case W_CCF:
                    setFlags(f & (F_S | F_Z | F_P) | a & (F_Y | F_X) | ((f & F_C) != 0 ? F_H : F_C));
                    break;
                case W_NEG:
                    save(K_A, difference(0, a, 0));
                    break;
                case W_RETN:
                case W_RETI:
                    registers[R_PC] = pop();
                    registers[R_L1] = registers[R_L2];
                    break;
                case W_IM:
                    registers[R_MODE] = instruction.number();
                    break;
                case W_RRD:
                case W_RLD:
                    turnHalves(word == W_RLD, a, f);
                    break;
                default:
                    break;
            }
        }

        private int flags() {
            return registers[R_AF] & 255;
        }

        private void setFlags(int flags) {
            registers[R_AF] = registers[R_AF] & 0xFF00 | flags & 255;
        }

        /** S, Z, Y, X of an octet. */
        private static int signsOf(int octet) {
            return octet & (F_S | F_Y | F_X) | (octet == 0 ? F_Z : 0);
        }

        private static int parityOf(int octet) {
            return Integer.bitCount(octet & 255) % 2 == 0 ? F_P : 0;
        }

        /** An operand that is an octet. */
        private int load(int kind) {
            if (kind >= K_B && kind <= K_L) {
                return registers[(kind + 1) / 2] >> (kind % 2 * 8) & 255;
            }
            switch (kind) {
                case K_A:
                    return registers[R_AF] >> 8 & 255;
                case K_I:
                    return registers[R_I];
                case K_R:
                    return registers[R_R];
                case K_OCTET:
                    return instruction.number() & 255;
                default:
                    return memory.at(addressOf(kind));
            }
        }

        private void save(int kind, int value) {
            int v = value & 255;
            if (kind >= K_B && kind <= K_L) {
                int pair = (kind + 1) / 2;
                registers[pair] = kind % 2 == 1 ? v << 8 | registers[pair] & 255 : registers[pair] & 0xFF00 | v;
                return;
            }
            switch (kind) {
                case K_A:
                    registers[R_AF] = v << 8 | registers[R_AF] & 255;
                    break;
                case K_I:
                    registers[R_I] = v;
                    break;
                case K_R:
                    registers[R_R] = v;
                    break;
                default:
                    memory.store(addressOf(kind), v);
                    break;
            }
        }

        private int addressOf(int kind) {
            switch (kind) {
                case K_AT_BC:
                    return registers[R_BC];
                case K_AT_DE:
                    return registers[R_DE];
                case K_NEAR_IX:
                    return registers[R_IX] + instruction.distance();
                case K_NEAR_IY:
                    return registers[R_IY] + instruction.distance();
                case K_MEMORY:
                    return instruction.number();
                default:
                    return registers[R_HL];
            }
        }

        /** The register that an operand of 16 bits is, -1 if it is none. */
        private static int pairOf(int kind) {
            switch (kind) {
                case K_BC:
                    return R_BC;
                case K_DE:
                    return R_DE;
                case K_HL:
                    return R_HL;
                case K_SP:
                    return R_SP;
                case K_AF:
                    return R_AF;
                case K_IX:
                    return R_IX;
                case K_IY:
                    return R_IY;
                default:
                    return NONE;
            }
        }

        private int pair(int kind) {
            int r = pairOf(kind);
            if (r >= 0 && r < REGISTERS) {
                return registers[r];
            }
            return kind == K_MEMORY ? memory.wordAt(instruction.number()) : instruction.number();
        }

        private void savePair(int kind, int value) {
            int r = pairOf(kind);
            if (r >= 0 && r < REGISTERS) {
                registers[r] = value & 65535;
            } else if (kind == K_MEMORY) {
                memory.storeWord(instruction.number(), value);
            }
        }

        private void push(int value) {
            registers[R_SP] = registers[R_SP] - 2 & 65535;
            memory.storeWord(registers[R_SP], value);
        }

        private int pop() {
            int value = memory.wordAt(registers[R_SP]);
            registers[R_SP] = registers[R_SP] + 2 & 65535;
            return value;
        }

        private void swap(int r, int other) {
            if (r >= 0 && r < REGISTERS && other >= 0 && other < REGISTERS) {
                int value = registers[r];
                registers[r] = registers[other];
                registers[other] = value;
            }
        }

        private void exchange(int first, int second) {
            if (first == K_AF) {
                swap(R_AF, R_OTHER);
            } else if (first == K_DE) {
                swap(R_DE, R_HL);
            } else {
                int value = pair(second);
                savePair(second, memory.wordAt(registers[R_SP]));
                memory.storeWord(registers[R_SP], value);
            }
        }

        private void transfer(int first, int second) {
            if (pairOf(first) >= 0 || pairOf(second) >= 0) {
                savePair(first, pair(second));
                return;
            }
            save(first, load(second));
            if (second == K_I || second == K_R) {
                int latch = registers[R_L2] == 1 ? F_P : 0;
                setFlags(flags() & F_C | signsOf(load(K_A)) | latch);
            }
        }

        private static boolean isCondition(int kind) {
            return kind >= K_NZ && kind <= K_M || kind == K_C;
        }

        private boolean holds(int condition) {
            int f = flags();
            switch (condition) {
                case K_NZ:
                    return (f & F_Z) == 0;
                case K_Z:
                    return (f & F_Z) != 0;
                case K_NC:
                    return (f & F_C) == 0;
                case K_C:
                    return (f & F_C) != 0;
                case K_PO:
                    return (f & F_P) == 0;
                case K_PE:
                    return (f & F_P) != 0;
                case K_P:
                    return (f & F_S) == 0;
                default:
                    return (f & F_S) != 0;
            }
        }

        private void jump(int word, int first) {
            if (isCondition(first) && !holds(first)) {
                return;
            }
            int target = instruction.number();
            if (word == W_RET) {
                target = pop();
            } else if (word == W_CALL || word == W_RST) {
                push(registers[R_PC]);
            } else if (first == K_AT_HL) {
                target = registers[R_HL];
            } else if (first == K_AT_IX) {
                target = registers[R_IX];
            } else if (first == K_AT_IY) {
                target = registers[R_IY];
            }
            registers[R_PC] = target;
        }

        private void calculate(int word, int first, int second) {
            int carry = word == W_ADC || word == W_SBC ? flags() & F_C : 0;
            if (pairOf(first) >= 0) {
                calculateWide(word, first, pair(second), carry);
                return;
            }
            int a = load(K_A);
            int v = load(second == 0 ? first : second);
            switch (word) {
                case W_ADD:
                case W_ADC:
                    save(K_A, sum(a, v, carry));
                    break;
                case W_SUB:
                case W_SBC:
                    save(K_A, difference(a, v, carry));
                    break;
                case W_CP:
                    difference(a, v, 0);
                    setFlags(flags() & ~(F_Y | F_X) | v & (F_Y | F_X));
                    break;
                case W_AND:
                    combine(a & v, F_H);
                    break;
                case W_XOR:
                    combine(a ^ v, 0);
                    break;
                default:
                    combine(a | v, 0);
                    break;
            }
        }

        private int sum(int a, int v, int carry) {
            int r = a + v + carry;
            int overflow = (a ^ r) & (v ^ r) & 128;
            setFlags(signsOf(r & 255) | (a ^ v ^ r) & F_H | overflow >> 5 | r >> 8 & F_C);
            return r & 255;
        }

        private int difference(int a, int v, int carry) {
            int r = a - v - carry;
            int overflow = (a ^ v) & (a ^ r) & 128;
            setFlags(signsOf(r & 255) | (a ^ v ^ r) & F_H | overflow >> 5 | F_N | r >> 8 & F_C);
            return r & 255;
        }

        private void combine(int a, int half) {
            save(K_A, a);
            setFlags(signsOf(a) | parityOf(a) | half);
        }

        private void calculateWide(int word, int first, int v, int carry) {
            int a = pair(first);
            boolean borrows = word == W_SBC;
            int r = borrows ? a - v - carry : a + v + carry;
            int kept = (a ^ v ^ r) >> 8 & F_H | r >> 16 & F_C | r >> 8 & (F_Y | F_X);
            if (word == W_ADD) {
                setFlags(flags() & (F_S | F_Z | F_P) | kept);
            } else {
                int overflow = (borrows ? a ^ v : ~(a ^ v)) & (a ^ r) & 32768;
                int zero = (r & 65535) == 0 ? F_Z : 0;
                setFlags(kept | r >> 8 & F_S | zero | overflow >> 13 | (borrows ? F_N : 0));
            }
            savePair(first, r);
        }

        private void change(int kind, int by) {
            if (pairOf(kind) >= 0) {
                savePair(kind, pair(kind) + by);
                return;
            }
            int carry = flags() & F_C;
            int v = load(kind);
            save(kind, by > 0 ? sum(v, 1, 0) : difference(v, 1, 0));
            setFlags(flags() & ~F_C | carry);
        }

        /** What comes when an octet is moved in way 0 .. 7, as RO numbers them. */
        private int moved(int way, int v) {
            int carry = flags() & F_C;
            switch (way) {
                case 0:
                    return (v << 1 | v >> 7) & 255;
                case 1:
                    return v >> 1 | v << 7 & 128;
                case 2:
                    return (v << 1 | carry) & 255;
                case 3:
                    return v >> 1 | carry << 7;
                case 4:
                    return v << 1 & 255;
                case 5:
                    return v >> 1 | v & 128;
                default:
                    return v >> 1;
            }
        }

        /** The bit that goes out then. */
        private static int movedOut(int way, int v) {
            return way == 0 || way == 2 || way == 4 ? v >> 7 : v & 1;
        }

        private void turnA(int way) {
            int a = load(K_A);
            int r = moved(way, a);
            save(K_A, r);
            setFlags(flags() & (F_S | F_Z | F_P) | r & (F_Y | F_X) | movedOut(way, a));
        }

        private void turn(int way, int kind) {
            int v = load(kind);
            int r = moved(way, v);
            save(kind, r);
            setFlags(signsOf(r) | parityOf(r) | movedOut(way, v));
        }

        private void handleBit(int word, int kind) {
            int v = load(kind);
            int bit = 1 << instruction.number();
            if (word == W_RES) {
                save(kind, v & ~bit);
            } else if (word == W_SET) {
                save(kind, v | bit);
            } else {
                int zero = (v & bit) == 0 ? F_Z | F_P : 0;
                setFlags(flags() & F_C | v & bit & F_S | v & (F_Y | F_X) | F_H | zero);
            }
        }

        private void adjust(int a, int f) {
            int low = a & 15;
            boolean negative = (f & F_N) != 0;
            boolean half = (f & F_H) != 0;
            boolean carry = (f & F_C) != 0 || a > 153;
            int t = (half || low > 9 ? 6 : 0) + (carry ? 96 : 0);
            int r = (negative ? a - t : a + t) & 255;
            boolean halfThen = negative ? half && low < 6 : low > 9;
            save(K_A, r);
            setFlags(signsOf(r) | parityOf(r) | f & F_N | (carry ? F_C : 0) | (halfThen ? F_H : 0));
        }

        private void turnHalves(boolean left, int a, int f) {
            int v = load(K_AT_HL);
            int r = a & 240 | (left ? v >> 4 : v & 15);
            save(K_AT_HL, left ? v << 4 | a & 15 : a << 4 & 240 | v >> 4);
            save(K_A, r);
            setFlags(f & F_C | signsOf(r) | parityOf(r));
        }

        private void putOut(int port, int v) {
            outputs[port & 255] = v;
            outputCount++;
        }

        private void takeIn(int first, int second) {
            if (second == K_PORT) {
                save(K_A, inputs[instruction.number() & 255]);
                return;
            }
            int v = inputs[registers[R_BC] & 255];
            save(first, v);
            setFlags(flags() & F_C | signsOf(v) | parityOf(v));
        }

        /** LDI, CPI, INI, OUTI (what 0 .. 3), and those with D, IR, DR (way 1, 2, 3). */
        private void handleBlock(int what, int way, int address) {
            int by = way % 2 == 0 ? 1 : -1;
            boolean again;
            if (what == 0) {
                again = moveBlock(by);
            } else if (what == 1) {
                again = compareBlock(by);
            } else {
                again = portBlock(what == 3, by);
            }
            if (again && way >= 2) {
                registers[R_PC] = address;
            }
        }

        private void moveOn(int r, int by) {
            if (r >= 0 && r < REGISTERS) {
                registers[r] = registers[r] + by & 65535;
            }
        }

        /** X and Y as bits 3 and 1 of s, P whether BC is not 0. */
        private int blockFlags(int s) {
            return s & F_X | (s & 2) << 4 | (registers[R_BC] != 0 ? F_P : 0);
        }

        private boolean moveBlock(int by) {
            int v = memory.at(registers[R_HL]);
            memory.store(registers[R_DE], v);
            moveOn(R_HL, by);
            moveOn(R_DE, by);
            moveOn(R_BC, -1);
            setFlags(flags() & (F_S | F_Z | F_C) | blockFlags(v + load(K_A)));
            return registers[R_BC] != 0;
        }

        private boolean compareBlock(int by) {
            int v = memory.at(registers[R_HL]);
            int carry = flags() & F_C;
            int r = difference(load(K_A), v, 0);
            moveOn(R_HL, by);
            moveOn(R_BC, -1);
            int kept = flags() & (F_S | F_Z | F_H);
            setFlags(kept | carry | F_N | blockFlags(r - (kept & F_H) / F_H));
            return registers[R_BC] != 0 && r != 0;
        }

        private boolean portBlock(boolean out, int by) {
            int v = out ? memory.at(registers[R_HL]) : inputs[registers[R_BC] & 255];
            int port = registers[R_BC];
            save(K_B, load(K_B) - 1);
            int b = load(K_B);
            if (out) {
                putOut(port, v);
            } else {
                memory.store(registers[R_HL], v);
            }
            moveOn(R_HL, by);
            int k = v + (out ? load(K_L) : registers[R_BC] + by & 255);
            int over = k > 255 ? F_H | F_C : 0;
            setFlags(signsOf(b) | v >> 6 & F_N | over | parityOf(k & 7 ^ b));
            return b != 0;
        }
    }
}
