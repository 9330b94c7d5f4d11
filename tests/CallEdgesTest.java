/**
 * The edges of each call, sentence by sentence of promises 1 to 21: the last that is allowed, the first that is not,
 * which refusal comes first, and that a refused call changes nothing. No object here is used for more than 512 calls.
 */
public final class CallEdgesTest {
    private static final int LEAST = Integer.MIN_VALUE;
    private static final int GREATEST = Integer.MAX_VALUE;
    private static final String NOTHING = "ANSWERS below 0 are refusals and change nothing";

    private interface Call {
        long on(OpcodeForge forge);
    }

    public static void main(String[] args) {
        newObject();
        feed();
        feedsRoom();
        forge();
        told();
        label();
        labelSign();
        writeAndSign();
        source();
        sourceAt();
        octetAndPut();
        registers();
        ports();
        request();
        stepAndRun();
        outs();
        clear();
        Check.end("CallEdgesTest");
    }

    /** Something stands everywhere; a REQUEST waits right behind an EI, and what it runs takes from a port. */
    private static OpcodeForge prepared(int kind) {
        OpcodeForge forge = Check.fed("ORG 48\nX:IN A,(7)\nOUT (9),A\nY EQU -300\nORG 102\nIN A,(7)\n");
        forge.forge();
        forge.feed(0, 0);
        Check.feedMore(forge, "\nDB 256 ;");
        forge.forge();
        Check.putAll(forge, 498, 211, 3, 251, 0, 0);
        forge.write(48);
        for (int r = 0; r < 11; r++) {
            forge.set(r, 1000 + 257 * r);
        }
        forge.set(11, 498);
        forge.set(12, 77);
        forge.set(13, 255);
        forge.port(7, 200);
        forge.run(2);
        forge.request(kind, 48);
        return forge;
    }

    /** What can be seen of an object, in some 90 calls. */
    private static String seen(OpcodeForge forge) {
        StringBuilder text = new StringBuilder();
        for (int r = 0; r <= 16; r++) {
            text.append(forge.register(r)).append(' ');
        }
        for (int address : new int[] {0, 1, 47, 48, 49, 50, 51, 52, 102, 103, 498, 499, 500, 2999, 3000, 32767, 65534, 65535}) {
            text.append(forge.octet(address)).append(' ');
        }
        for (int what = 0; what <= 5; what++) {
            text.append(forge.told(what)).append(' ');
        }
        text.append(Check.sourceOf(forge)).append(' ').append(Check.written(forge)).append(' ');
        for (int i = 0; i < 3; i++) {
            text.append(Check.labelName(forge, i)).append(forge.label(i)).append(' ');
        }
        for (int p : new int[] {0, 3, 7, 9, 255}) {
            text.append(forge.out(p)).append(' ');
        }
        return text.append(forge.outs()).toString();
    }

    /** What cannot be seen at once: the steps that come, what waits, what stands at ports. */
    private static String future(OpcodeForge forge) {
        StringBuilder text = new StringBuilder();
        for (int i = 0; i < 5; i++) {
            text.append(forge.step()).append(' ').append(forge.register(0)).append(' ').append(forge.register(11)).append(' ');
        }
        text.append(forge.request(0, 0)).append(forge.request(1, 0)).append(' ');
        for (int p : new int[] {0, 3, 7, 9, 255}) {
            text.append(forge.port(p, 0)).append(' ');
        }
        return text.toString();
    }

    /** The call is refused, and then all is as on an object that had no such call. */
    private static void refused(String what, int due, Call call) {
        for (int kind = 0; kind <= 1; kind++) {
            OpcodeForge forge = prepared(kind);
            OpcodeForge other = prepared(kind);
            Check.same(what, call.on(forge), due);
            Check.same(what + ": " + NOTHING, seen(forge), seen(other));
            Check.same(what + ": " + NOTHING + ", what comes then", future(forge), future(other));
        }
    }

    private static void newObject() {
        Check.holds("Promise 1", "No SOURCE, no LABELS; the machine as at first");
        OpcodeForge forge = new OpcodeForge();
        Check.same("sourceAt(0)", forge.sourceAt(0), -1);
        Check.same("label(0)", forge.label(0), 0);
        Check.same("labelSign(0, 0)", forge.labelSign(0, 0), -1);
        Check.same("sign(0)", forge.sign(0), -1);
        for (int what = 0; what <= 5; what++) {
            Check.same("told(" + what + ")", forge.told(what), 0);
        }
        Check.holds("Terms 3", "all 0 at first, but SP 65535");
        for (int r = 0; r <= 16; r++) {
            Check.same("register(" + r + ")", forge.register(r), r == 10 ? 65535 : 0);
        }
        Check.holds("Terms 3", "MEMORY: 65536 octets, at first 0");
        for (int address : new int[] {0, 1, 255, 256, 32767, 32768, 65534, 65535}) {
            Check.same("octet(" + address + ")", forge.octet(address), 0);
        }
        Check.holds("Terms 3", "PORTS: 256 octets for IN (0 at first), 256 for OUT");
        for (int p : new int[] {0, 1, 127, 128, 254, 255}) {
            Check.same("port(" + p + ")", forge.port(p, 0), 0);
            Check.same("out(" + p + ")", forge.out(p), 0);
        }
        Check.same("outs()", forge.outs(), 0);
        Check.same("request(0, 0)", forge.request(0, 0), 1);
        Check.same("request(1, 0)", forge.request(1, 0), 1);
        Check.holds("Promise 3", "SOURCE is forged: how many octets were put (an empty one: 0)");
        Check.same("forge()", forge.forge(), 0);
    }

    private static void feed() {
        Check.holds("Promise 2", "-2 n is not 0 .. 8");
        for (int n : new int[] {-1, 9, LEAST, GREATEST}) {
            refused("feed(5, " + n + ")", -2, forge -> forge.feed(5, n));
        }
        for (int n = 1; n <= 8; n++) {
            Check.holds("Promise 2", "The n lowest bytes of v, the highest first, come behind SOURCE: how many it has");
            OpcodeForge forge = Check.fed("ab");
            Check.same("feed of " + n, forge.feed(0x8182838485868788L, n), 2 + n);
            Check.same("what stood before", forge.sourceAt(0) * 1000 + forge.sourceAt(1), 97098);
            for (int i = 0; i < n; i++) {
                Check.same("byte " + i + " of " + n, forge.sourceAt(2 + i), 0x80 + 9 - n + i);
            }
            Check.same("none behind", forge.sourceAt(2 + n), -1);
        }
        Check.holds("Promise 2", "with n = 0 it is empty: 0");
        OpcodeForge forge = Check.fed("ab");
        Check.same("feed(-1, 0)", forge.feed(-1, 0), 0);
        Check.same("sourceAt(0)", forge.sourceAt(0), -1);
        Check.same("feed(0, 0) of an empty one", forge.feed(0, 0), 0);
        Check.same("feed(0, 1)", forge.feed(0, 1), 1);
        Check.same("a byte 0", forge.sourceAt(0), 0);
        Check.same("feed(-1, 1)", forge.feed(-1, 1), 2);
        Check.same("a byte 255", forge.sourceAt(1), 255);
    }

    /** SOURCE with 4206 bytes, by few calls: 300 times LD HL,(10794), which is 42 42 42. */
    private static OpcodeForge long300() {
        OpcodeForge forge = Check.fed("DS 65535,42");
        forge.forge();
        Check.same("source(0, 300)", forge.source(0, 300), 6 + 300 * 14);
        return forge;
    }

    private static void feedsRoom() {
        Check.holds("Promise 2", "-4 it would have more than 6000");
        OpcodeForge forge = long300();
        for (int i = 1; i <= 224; i++) {
            Check.same("feed " + i, forge.feed(-1, 8), 4206 + 8 * i);
        }
        for (int n = 8; n >= 3; n--) {
            Check.same("5998 and " + n, forge.feed(0, n), -4);
        }
        Check.same(NOTHING, forge.sourceAt(5998), -1);
        Check.same("5998 and 1", forge.feed(65, 1), 5999);
        Check.same("5999 and 2", forge.feed(0, 2), -4);
        Check.same("5999 and 1", forge.feed(66, 1), 6000);
        Check.same("6000 and 1", forge.feed(0, 1), -4);
        Check.same("6000 and 8", forge.feed(0, 8), -4);
        Check.same("the last byte", forge.sourceAt(5999), 66);
        Check.same("none behind it", forge.sourceAt(6000), -1);
        Check.holds("Terms 3", "the first that fits: -2 ahead of -4");
        Check.same("full, and n 9", forge.feed(0, 9), -2);
        Check.same("full, and n -1", forge.feed(0, -1), -2);
        Check.holds("Promise 2", "with n = 0 it is empty: 0");
        Check.same("full, and n 0", forge.feed(0, 0), 0);
        Check.same("room again", forge.feed(0, 8), 8);
        forge = long300();
        for (int i = 1; i <= 223; i++) {
            forge.feed(-1, 8);
        }
        forge.feed(-1, 2);
        Check.holds("Promise 2", "-4 it would have more than 6000");
        Check.same("5992 and 8", forge.feed(0x4142434445464748L, 8), 6000);
        Check.same("byte 5992", forge.sourceAt(5992), 0x41);
        Check.same("byte 5999", forge.sourceAt(5999), 0x48);
    }

    private static void forge() {
        Check.holds("Promise 3", "SOURCE (it stays) is forged into MEMORY: how many octets were put");
        OpcodeForge forge = Check.fed("DB 1,2");
        Check.same("forge()", forge.forge(), 2);
        Check.same("SOURCE", Check.sourceOf(forge), "DB 1,2");
        Check.same("forge() again", forge.forge(), 2);
        forge = Check.fed("DS 65535,1\nORG 0\nDS 65535,2\nORG 65535\nDB 9");
        Check.same("what is put twice counts twice", forge.forge(), 131071);
        Check.same("the later one stays", Check.octetsAt(forge, 65534, 3), "2 9 2");
        Check.holds("Promise 3", "-10 less the FAULT");
        String[] broken = {"DB ?", "DB 1 2", "A:", "DB X", "DB 256", "FOO", "ENDIF", "ORG 65535\nDW 1", "\n".repeat(301)};
        for (int code = 1; code <= 9; code++) {
            forge = Check.fed("ORG 7\nX:DB 1\n");
            Check.same("forge() before FAULT " + code, forge.forge(), 1);
            forge.feed(0, 0);
            Check.feedMore(forge, broken[code - 1]);
            Check.same("FAULT " + code, forge.forge(), -10 - code);
        }
        Check.holds("Terms 2", "With a FAULT MEMORY, LABELS stay as they were");
        for (int code = 1; code <= 9; code++) {
            String text = "W EQU 3\nORG 7\nV:DB 9\nDS 3,9\nNOP\n" + broken[code - 1];
            forge = Check.fed("ORG 6\nX:DB 1,2\nY:DB 3");
            forge.forge();
            forge.write(6);
            forge.feed(0, 0);
            Check.feedMore(forge, text);
            OpcodeForge other = Check.fed("ORG 6\nX:DB 1,2\nY:DB 3");
            other.forge();
            Check.same("FAULT " + code, forge.forge(), -10 - code);
            Check.same("MEMORY, FAULT " + code, Check.octetsAt(forge, 5, 9), Check.octetsAt(other, 5, 9));
            Check.same("LABELS, FAULT " + code, Check.labelName(forge, 0) + forge.label(0) + Check.labelName(forge, 1) + forge.label(1)
                + Check.labelName(forge, 2) + forge.label(2), "X6Y80");
            Check.same("told(2 .. 5), FAULT " + code, forge.told(2) * 1000 + forge.told(3) * 100 + forge.told(4) * 10 + forge.told(5), 3269);
            Check.same("SOURCE, FAULT " + code, forge.sourceAt(0) * 1000 + forge.sourceAt(text.length() - 1),
                87000 + text.charAt(text.length() - 1));
            Check.same("what was written, FAULT " + code, Check.written(forge), "LD BC,770");
        }
    }

    private static void told() {
        Check.holds("Promise 4", "-2 no such what");
        for (int what : new int[] {-1, 6, LEAST, GREATEST}) {
            refused("told(" + what + ")", -2, forge -> forge.told(what));
        }
        Check.holds("Promise 4", "0 the line of its FAULT (0 without), 1 its place (0)");
        OpcodeForge forge = Check.fed("?");
        Check.same("forge()", forge.forge(), -11);
        Check.same("line", forge.told(0), 1);
        Check.same("place", forge.told(1), 0);
        Check.holds("Promise 4", "of the latest one without a FAULT (0 before)");
        for (int what = 2; what <= 5; what++) {
            Check.same("told(" + what + ")", forge.told(what), 0);
        }
        forge.feed(0, 0);
        Check.feedMore(forge, "\nX:ORG 9\nY:DB 1\nQ EQU 3");
        Check.same("forge()", forge.forge(), 1);
        Check.same("line without", forge.told(0), 0);
        Check.same("place without", forge.told(1), 0);
        int[] due = {4, 3, 9, 10};
        for (int again = 0; again < 2; again++) {
            for (int what = 2; what <= 5; what++) {
                Check.same("told(" + what + ")", forge.told(what), due[what - 2]);
            }
            forge.feed('?', 1);
            forge.forge();
        }
        Check.holds("Promise 4", "Of the latest forge(), with a FAULT, too: its line, its place");
        Check.same("line", forge.told(0), 4);
        Check.same("place", forge.told(1), 23);
        forge.feed(0, 0);
        Check.feedMore(forge, "X:ORG 7");
        Check.same("forge()", forge.forge(), 0);
        int[] then = {0, 0, 1, 1, 0, 7};
        for (int what = 0; what <= 5; what++) {
            Check.same("without a FAULT again, told(" + what + ")", forge.told(what), then[what]);
        }
        forge.feed(0, 0);
        Check.feedMore(forge, "IF 1\nIF 0");
        Check.same("forge()", forge.forge(), -17);
        forge.feed(0, 0);
        Check.feedMore(forge, "DB 1\nIF 1\nENDIF");
        Check.same("IFs that were open are so no more", forge.forge(), 1);
        Check.holds("Promise 4", "4 the address of the first octet put (0 if none was)");
        tells("X:\nORG 7", 4, 0);
        tells("ORG 7\nDS 0\nDB \"\"", 4, 0);
        tells("ORG 7\nDS 0\nORG 9\nDS 1\nORG 3\nNOP", 4, 9);
        tells("ORG 65535\nNOP", 4, 65535);
        Check.holds("Promise 4", "5 the address behind the last statement (behind ORG 9: 9)");
        tells("", 5, 0);
        tells("ORG 9", 5, 9);
        tells("ORG 9\nNOP", 5, 10);
        tells("ORG 9\nNOP\nX:\n;", 5, 10);
        tells("ORG 9\nX EQU 5", 5, 9);
        tells("ORG 9\nDS 0", 5, 9);
        tells("ORG 9\nIF 0\nNOP\nENDIF", 5, 9);
        tells("ORG 65535", 5, 65535);
        tells("ORG 65535\nDB 1", 5, 65536);
        tells("ORG 65535\nDB 1\nORG 2", 5, 2);
        Check.holds("Promise 4", "2 lines");
        tells("", 2, 0);
        tells("\n", 2, 1);
        tells("NOP", 2, 1);
        tells("NOP\n", 2, 1);
        tells("NOP\n;", 2, 2);
        tells("IF 0\n?\nENDIF\n\n", 2, 4);
        Check.holds("Promise 4", "3 LABELS");
        tells("NOP", 3, 0);
        tells("X:", 3, 1);
        tells("X: Y EQU X", 3, 2);
        tells("IF 0\nX:\nENDIF", 3, 0);
    }

    private static void tells(String text, int what, int due) {
        OpcodeForge forge = Check.fed(text);
        Check.same("forges well: " + text, forge.forge() >= 0 ? 1 : 0, 1);
        Check.same("told(" + what + ") of " + text, forge.told(what), due);
    }

    private static OpcodeForge threeLabels() {
        OpcodeForge forge = Check.fed("W:\nB_1 EQU -1\nORG 9\nabcdefgh_012: DB W");
        Check.same("forge()", forge.forge(), 1);
        return forge;
    }

    private static void label() {
        Check.holds("Promise 5", "LABEL i, in the order in which they were told: its VALUE");
        OpcodeForge forge = threeLabels();
        Check.same("label(0)", forge.label(0), 0);
        Check.same("label(1)", forge.label(1), -1);
        Check.same("label(2)", forge.label(2), 9);
        forge = Check.fed("Y EQU $7FFF<<16|$FFFF\nX EQU $8000<<16");
        forge.forge();
        Check.same("the greatest VALUE", forge.label(0), GREATEST);
        Check.same("the least VALUE", forge.label(1), LEAST);
        Check.holds("Promise 5", "0 when there is none");
        forge = threeLabels();
        for (int i : new int[] {-1, 3, 199, 200, LEAST, GREATEST}) {
            Check.same("label(" + i + ")", forge.label(i), 0);
        }
    }

    private static void labelSign() {
        Check.holds("Promise 6", "Sign k of LABEL i's NAME (as capitals)");
        OpcodeForge forge = threeLabels();
        String[] names = {"W", "B_1", "ABCDEFGH_012"};
        for (int i = 0; i < names.length; i++) {
            for (int k = 0; k < names[i].length(); k++) {
                Check.same("labelSign(" + i + ", " + k + ")", forge.labelSign(i, k), names[i].charAt(k));
            }
            Check.holds("Promise 6", "-1 there is none");
            for (int k : new int[] {-1, names[i].length(), 12, 13, LEAST, GREATEST}) {
                Check.same("labelSign(" + i + ", " + k + ")", forge.labelSign(i, k), -1);
            }
        }
        for (int i : new int[] {-1, 3, 199, 200, LEAST, GREATEST}) {
            Check.same("labelSign(" + i + ", 0)", forge.labelSign(i, 0), -1);
        }
        refused("labelSign(2, 0)", -1, other -> other.labelSign(2, 0));
        refused("labelSign(0, 1)", -1, other -> other.labelSign(0, 1));
    }

    private static void writeAndSign() {
        Check.holds("Promise 7", "-2 the address is not 0 .. 65535");
        for (int address : new int[] {-1, 65536, LEAST, GREATEST}) {
            refused("write(" + address + ")", -2, forge -> forge.write(address));
        }
        Check.holds("Promise 7", "What stands at an address is WRITTEN: how many octets it has");
        OpcodeForge forge = new OpcodeForge();
        Check.putAll(forge, 65535, 62, 118);
        Check.same("write(65535)", forge.write(65535), 2);
        Check.same("LD A,118", Check.written(forge), "LD A,118");
        Check.same("write(0)", forge.write(0), 1);
        Check.same("HALT", Check.written(forge), "HALT");
        Check.holds("Promise 8", "Sign i of what was written latest by write(). -1 there is none");
        Check.same("sign(0)", forge.sign(0), 'H');
        Check.same("sign(3)", forge.sign(3), 'T');
        for (int i : new int[] {-1, 4, LEAST, GREATEST}) {
            Check.same("sign(" + i + ")", forge.sign(i), -1);
        }
        forge.write(65536);
        Check.same("a refused write() writes nothing", Check.written(forge), "HALT");
        forge.source(65535, 1);
        Check.same("source() is no write()", Check.written(forge), "HALT");
        forge.put(0, 0);
        Check.same("what was written stays", Check.written(forge), "HALT");
        Check.putAll(forge, 0, 221, 203, 128, 254);
        Check.same("the longest", forge.write(0), 4);
        Check.same("its last sign", forge.sign(13), ')');
        Check.same("behind it", forge.sign(14), -1);
        refused("sign(8)", -1, other -> other.sign(8));
    }

    private static void source() {
        Check.holds("Promise 9", "-2 address, or n is not 1 .. 300");
        for (int address : new int[] {-1, 65536, LEAST, GREATEST}) {
            refused("source(" + address + ", 1)", -2, forge -> forge.source(address, 1));
            refused("source(" + address + ", 0)", -2, forge -> forge.source(address, 0));
        }
        for (int n : new int[] {0, -1, 301, LEAST, GREATEST}) {
            refused("source(0, " + n + ")", -2, forge -> forge.source(0, n));
            refused("source(65535, " + n + ")", -2, forge -> forge.source(65535, n));
        }
        Check.holds("Promise 9", "n of them, each on a line that ends with 10, the first behind a line \"ORG \" and the address");
        OpcodeForge forge = Check.fed("old");
        Check.same("source(0, 1)", forge.source(0, 1), 10);
        Check.same("its text", Check.sourceOf(forge), "ORG 0\nNOP\n");
        Check.same("source(0, 2)", forge.source(0, 2), 14);
        Check.same("source(0, 300)", forge.source(0, 300), 1206);
        Check.same("the last byte", forge.sourceAt(1205), 10);
        Check.same("none behind it", forge.sourceAt(1206), -1);
        forge = new OpcodeForge();
        Check.putAll(forge, 65533, 203, 6, 6, 118, 237, 0);
        String due = "ORG 65533\nRLC (HL)\nLD B,118\nDB 237\nNOP\n";
        Check.same("over the end", forge.source(65533, 4), due.length());
        Check.same("its text", Check.sourceOf(forge), due);
        Check.same("source(65535, 1)", forge.source(65535, 1), 19);
        Check.same("its text", Check.sourceOf(forge), "ORG 65535\nLD B,118\n");
        Check.holds("Promise 9", "-4 more than 6000 (300 lines have less)");
        forge = Check.fed("DS 65535,54");
        forge.forge();
        Check.same("300 times LD (HL),54", forge.source(0, 300), 6 + 300 * 11);
        forge = new OpcodeForge();
        Check.putAll(forge, 0, 221, 54, 128, 255, 221, 54, 128, 255);
        Check.same("the longest lines that there are", forge.source(0, 2), 6 + 2 * 16);
        Check.holds("Promise 9", "they take SOURCE's place");
        forge = long300();
        for (int i = 0; i < 224; i++) {
            forge.feed(-1, 8);
        }
        Check.same("a full one becomes a short one", forge.source(65535, 1), 14);
        Check.same("its text", Check.sourceOf(forge), "ORG 65535\nNOP\n");
    }

    private static void sourceAt() {
        Check.holds("Promise 10", "Byte i of SOURCE. -1 there is none");
        OpcodeForge forge = Check.fed("\000\377A");
        Check.same("sourceAt(0)", forge.sourceAt(0), 0);
        Check.same("sourceAt(1)", forge.sourceAt(1), 255);
        Check.same("sourceAt(2)", forge.sourceAt(2), 65);
        for (int i : new int[] {-1, 3, 5999, 6000, 6001, LEAST, GREATEST}) {
            Check.same("sourceAt(" + i + ")", forge.sourceAt(i), -1);
        }
        refused("sourceAt(9)", -1, other -> other.sourceAt(9));
    }

    private static void octetAndPut() {
        Check.holds("Promise 11", "The octet at an address. -1 there is none");
        for (int address : new int[] {-1, 65536, LEAST, GREATEST}) {
            refused("octet(" + address + ")", -1, forge -> forge.octet(address));
        }
        Check.holds("Promise 12", "-1 there is no such address, -2 v is not 0 .. 255; the first that fits");
        for (int address : new int[] {-1, 65536, LEAST, GREATEST}) {
            for (int v : new int[] {0, 255, -1, 256}) {
                refused("put(" + address + ", " + v + ")", -1, forge -> forge.put(address, v));
            }
        }
        for (int v : new int[] {-1, 256, LEAST, GREATEST}) {
            refused("put(0, " + v + ")", -2, forge -> forge.put(0, v));
            refused("put(65535, " + v + ")", -2, forge -> forge.put(65535, v));
        }
        Check.holds("Promise 12", "The octet at an address becomes v: what it was");
        for (int address : new int[] {0, 65535}) {
            OpcodeForge forge = new OpcodeForge();
            Check.same("put 255", forge.put(address, 255), 0);
            Check.same("octet", forge.octet(address), 255);
            Check.same("put 0", forge.put(address, 0), 255);
            Check.same("octet", forge.octet(address), 0);
            Check.same("put 128", forge.put(address, 128), 0);
            Check.same("its neighbours", forge.octet(address + 65535 & 65535) + forge.octet(address + 1 & 65535), 0);
        }
    }

    private static void registers() {
        int[] most = {65535, 65535, 65535, 65535, 65535, 65535, 65535, 65535, 65535, 65535, 65535, 65535, 255, 255, 1, 1, 2};
        Check.holds("Promise 13", "A REGISTER. -1 there is none");
        for (int r : new int[] {-1, 17, LEAST, GREATEST}) {
            refused("register(" + r + ")", -1, forge -> forge.register(r));
        }
        Check.holds("Promise 14", "-1 there is none, -2 v is not 0 .. 65535; the first that fits");
        for (int r : new int[] {-1, 17, LEAST, GREATEST}) {
            for (int v : new int[] {0, 1, -1, 65536}) {
                refused("set(" + r + ", " + v + ")", -1, forge -> forge.set(r, v));
            }
        }
        Check.holds("Promise 14", "-2 v is not 0 .. 65535 (12, 13: 255; 14, 15: 1; 16: 2)");
        for (int i = 0; i <= 16; i++) {
            int r = i;
            for (int v : new int[] {-1, most[r] + 1, LEAST, GREATEST}) {
                refused("set(" + r + ", " + v + ")", -2, forge -> forge.set(r, v));
            }
            OpcodeForge forge = new OpcodeForge();
            int first = r == 10 ? 65535 : 0;
            Check.same("set(" + r + ", " + most[r] + ")", forge.set(r, most[r]), first);
            Check.same("register(" + r + ")", forge.register(r), most[r]);
            Check.same("set(" + r + ", 0)", forge.set(r, 0), most[r]);
            Check.same("register(" + r + ")", forge.register(r), 0);
            forge.set(r, most[r]);
            for (int other = 0; other <= 16; other++) {
                Check.same("set(" + r + ", ..) changes " + other, forge.register(other), other == r ? most[r] : other == 10 ? 65535 : 0);
            }
        }
    }

    private static void ports() {
        Check.holds("Promise 15", "-1 there is no such port (0 .. 255), -2 v; the first that fits");
        for (int p : new int[] {-1, 256, LEAST, GREATEST}) {
            for (int v : new int[] {0, 255, -1, 256}) {
                refused("port(" + p + ", " + v + ")", -1, forge -> forge.port(p, v));
            }
        }
        for (int p : new int[] {0, 7, 255}) {
            for (int v : new int[] {-1, 256, LEAST, GREATEST}) {
                refused("port(" + p + ", " + v + ")", -2, forge -> forge.port(p, v));
            }
            Check.holds("Promise 15", "The octet that comes by IN of a port becomes v: what it was");
            OpcodeForge forge = new OpcodeForge();
            Check.same("port(" + p + ", 255)", forge.port(p, 255), 0);
            Check.same("port(" + p + ", 0)", forge.port(p, 0), 255);
            Check.same("port(" + p + ", 128)", forge.port(p, 128), 0);
            Check.putAll(forge, 0, 219, p);
            forge.step();
            Check.same("IN A," + p, forge.register(0), 128 * 256);
            Check.same("it stays", forge.port(p, 0), 128);
        }
        Check.holds("Promise 16", "The octet that was put to a port by OUT last (0 before). -1");
        for (int p : new int[] {-1, 256, LEAST, GREATEST}) {
            refused("out(" + p + ")", -1, forge -> forge.out(p));
        }
        for (int p : new int[] {0, 255}) {
            OpcodeForge forge = new OpcodeForge();
            Check.same("out(" + p + ") before", forge.out(p), 0);
            Check.putAll(forge, 0, 211, p, 211, p);
            forge.set(0, 0xFF00);
            forge.step();
            Check.same("out(" + p + ")", forge.out(p), 255);
            forge.set(0, 0x7F00);
            forge.step();
            Check.same("out(" + p + "), the last one", forge.out(p), 127);
            Check.same("the other port", forge.out(255 - p), 0);
        }
    }

    private static void request() {
        Check.holds("Promise 17", "-2 kind, or v is not 0 .. 255");
        for (int v : new int[] {-1, 256, LEAST, GREATEST}) {
            refused("request(0, " + v + ")", -2, forge -> forge.request(0, v));
            refused("request(1, " + v + ")", -2, forge -> forge.request(1, v));
        }
        for (int kind : new int[] {-1, 2, LEAST, GREATEST}) {
            for (int v : new int[] {0, 255, -1, 256}) {
                refused("request(" + kind + ", " + v + ")", -2, forge -> forge.request(kind, v));
            }
        }
        Check.holds("Promise 17", "1; 0 if one of this kind waited already (v is the new one)");
        for (int kind = 0; kind <= 1; kind++) {
            for (int v : new int[] {0, 255}) {
                OpcodeForge forge = new OpcodeForge();
                Check.same("the first", forge.request(kind, v), 1);
                Check.same("the second", forge.request(kind, v), 0);
                Check.same("the third", forge.request(kind, 16), 0);
                Check.same("the other kind", forge.request(1 - kind, v), 1);
                Check.same("the other kind again", forge.request(1 - kind, v), 0);
            }
        }
        OpcodeForge forge = new OpcodeForge();
        forge.set(14, 1);
        forge.request(0, 255);
        forge.request(0, 16);
        Check.same("taken", forge.step(), 2);
        Check.same("with the new v", forge.register(11), 16);
        Check.same("it waits no more", forge.request(0, 3), 1);
    }

    private static void stepAndRun() {
        Check.holds("Promise 18", "A step: 1 an instruction, 2 a REQUEST was taken, 3 HALT, 0 STUCK");
        OpcodeForge forge = new OpcodeForge();
        Check.putAll(forge, 101, 0, 118, 237, 0);
        forge.set(11, 101);
        Check.same("NOP", forge.step(), 1);
        Check.same("HALT", forge.step(), 3);
        forge.request(1, 0);
        Check.same("REQUEST", forge.step(), 2);
        forge.set(11, 103);
        Check.same("STUCK", forge.step(), 0);
        Check.same("STUCK again", forge.step(), 0);
        Check.holds("Promise 19", "-2 n is not 0 .. 20000");
        for (int n : new int[] {-1, 20001, LEAST, GREATEST}) {
            refused("run(" + n + ")", -2, other -> other.run(n));
        }
        Check.holds("Promise 19", "Steps, n at most: how many");
        forge = new OpcodeForge();
        Check.same("run(0)", forge.run(0), 0);
        Check.same("nothing done", forge.register(11) + forge.register(13), 0);
        Check.same("run(1)", forge.run(1), 1);
        Check.same("one NOP", forge.register(11), 1);
        Check.same("run(20000)", forge.run(20000), 20000);
        Check.same("20000 NOPs", forge.register(11), 20001);
        Check.holds("Promise 19", "till one is HALT or STUCK (that is counted, too)");
        for (int octet : new int[] {118, 237}) {
            for (int before = 0; before <= 3; before++) {
                forge = new OpcodeForge();
                forge.put(before, octet);
                if (octet == 237) {
                    forge.put(before + 1, 0);
                }
                Check.same("one less than needed", forge.run(before), before);
                Check.same("at it", forge.register(11), before);
                Check.same("it is counted", forge.run(20000), 1);
                Check.same("PC stays at it", forge.register(11), before);
                forge.set(11, 0);
                Check.same("up to it", forge.run(before + 1), before + 1);
                forge.set(11, 0);
                Check.same("no further", forge.run(before + 2), before + 1);
            }
        }
        forge = new OpcodeForge();
        forge.put(104, 118);
        forge.request(1, 0);
        Check.same("a REQUEST is counted and is no end", forge.run(20000), 4);
        forge = new OpcodeForge();
        forge.put(0, 118);
        forge.put(104, 118);
        forge.request(1, 0);
        Check.same("a REQUEST at HALT", forge.run(20000), 4);
        Check.same("the HALT again", forge.run(20000), 1);
    }

    private static void outs() {
        Check.holds("Promise 20", "How many octets were put to ports by OUT since the beginning, or clear()");
        OpcodeForge forge = new OpcodeForge();
        Check.same("at the beginning", forge.outs(), 0);
        // OUT (5),A  OUT (C),B  OUTI  OTDR (B 2, then B 1)  IN A,(5)
        Check.putAll(forge, 0, 211, 5, 237, 65, 237, 163, 237, 187, 219, 5);
        forge.set(1, 3 * 256 + 5);
        int[] due = {1, 2, 3, 4, 5, 5};
        for (int i = 0; i < due.length; i++) {
            Check.same("step " + i, forge.step(), 1);
            Check.same("outs() behind step " + i, forge.outs(), due[i]);
        }
        forge.clear();
        Check.same("behind clear()", forge.outs(), 0);
        Check.putAll(forge, 0, 211, 5);
        forge.step();
        Check.same("one more", forge.outs(), 1);
    }

    private static void clear() {
        Check.holds("Promise 21", "MEMORY is 0, registers, ports, REQUESTS are as at first (SOURCE, LABELS stay)");
        for (int kind = 0; kind <= 1; kind++) {
            OpcodeForge forge = prepared(kind);
            forge.set(16, 2);
            forge.put(0, 9);
            forge.put(65535, 9);
            forge.port(0, 9);
            forge.port(255, 9);
            forge.clear();
            OpcodeForge other = new OpcodeForge();
            for (int r = 0; r <= 16; r++) {
                Check.same("register(" + r + ")", forge.register(r), other.register(r));
            }
            for (int address : new int[] {0, 48, 51, 498, 502, 65535}) {
                Check.same("octet(" + address + ")", forge.octet(address), 0);
            }
            for (int p : new int[] {0, 3, 7, 9, 255}) {
                Check.same("out(" + p + ")", forge.out(p), 0);
            }
            Check.same("SOURCE stays", Check.sourceOf(forge), "\nDB 256 ;");
            Check.same("LABELS stay", Check.labelName(forge, 0) + forge.label(0) + Check.labelName(forge, 1) + forge.label(1), "X48Y-300");
            Check.same("what was told stays", forge.told(0) * 100 + forge.told(1) * 10 + forge.told(2), 246);
            forge.set(14, 1);
            other.set(14, 1);
            Check.same("no REQUEST waits, nothing at ports", future(forge), future(other));
        }
        OpcodeForge forge = prepared(0);
        forge.clear();
        forge.set(14, 1);
        forge.request(0, 8);
        Check.same("the EI is forgotten", forge.step(), 2);
    }
}
