/** Promises 1 (a new object), 11 and 12 (octet, put), 13 and 14 (register, set), 15, 16, 20 (ports), 21 (clear). */
public final class ObjectTest {
    private static final int[] FIRST = {0, 0, 0, 0, 0, 0, 0, 0, 0, 0, 65535, 0, 0, 0, 0, 0, 0};
    private static final int[] MOST = {65535, 65535, 65535, 65535, 65535, 65535, 65535, 65535, 65535, 65535, 65535,
        65535, 255, 255, 1, 1, 2};

    public static void main(String[] args) {
        newObject();
        memory();
        registers();
        ports();
        clear();
        Check.end("ObjectTest");
    }

    private static void newObject() {
        OpcodeForge forge = new OpcodeForge();
        isFirst("new", forge);
        Check.same("new sourceAt(0)", forge.sourceAt(0), -1);
        Check.same("new sign(0)", forge.sign(0), -1);
        Check.same("new label(0)", forge.label(0), 0);
        Check.same("new labelSign(0, 0)", forge.labelSign(0, 0), -1);
        for (int what = 0; what <= 5; what++) {
            Check.same("new told(" + what + ")", forge.told(what), 0);
        }
        Check.same("new forge()", forge.forge(), 0);
        Check.same("new run(3)", forge.run(3), 3);
        Check.same("no EI has been done", new OpcodeForge().set(14, 1), 0);
        OpcodeForge enabled = new OpcodeForge();
        enabled.set(14, 1);
        enabled.request(0, 255);
        Check.same("new object takes a PLAIN request", enabled.step(), 2);
    }

    private static void isFirst(String when, OpcodeForge forge) {
        for (int r = 0; r <= 16; r++) {
            Check.same(when + " register(" + r + ")", forge.register(r), FIRST[r]);
        }
        for (int p = 0; p <= 255; p += 51) {
            Check.same(when + " out(" + p + ")", forge.out(p), 0);
        }
        for (int address : new int[] {0, 1, 255, 256, 32768, 65534, 65535}) {
            Check.same(when + " octet(" + address + ")", forge.octet(address), 0);
        }
        Check.same(when + " outs()", forge.outs(), 0);
    }

    private static void memory() {
        OpcodeForge forge = new OpcodeForge();
        Check.same("put(0, 255)", forge.put(0, 255), 0);
        Check.same("put(0, 7)", forge.put(0, 7), 255);
        Check.same("octet(0)", forge.octet(0), 7);
        Check.same("put(65535, 128)", forge.put(65535, 128), 0);
        Check.same("octet(65535)", forge.octet(65535), 128);
        Check.same("octet(65534)", forge.octet(65534), 0);
        Check.same("put(0, 0)", forge.put(0, 0), 7);
        for (int address : new int[] {-1, 65536, Integer.MAX_VALUE, Integer.MIN_VALUE}) {
            Check.same("octet(" + address + ")", forge.octet(address), -1);
            Check.same("put(" + address + ", 1)", forge.put(address, 1), -1);
            Check.same("put(" + address + ", 256)", forge.put(address, 256), -1);
        }
        for (int v : new int[] {-1, 256, Integer.MAX_VALUE, Integer.MIN_VALUE}) {
            Check.same("put(65535, " + v + ")", forge.put(65535, v), -2);
            Check.same("octet(65535) behind it", forge.octet(65535), 128);
        }
    }

    private static void registers() {
        OpcodeForge forge = new OpcodeForge();
        for (int r = 0; r <= 16; r++) {
            Check.same("set " + r, forge.set(r, MOST[r]), FIRST[r]);
            Check.same("register " + r, forge.register(r), MOST[r]);
            Check.same("set too much " + r, forge.set(r, MOST[r] + 1), -2);
            Check.same("set too little " + r, forge.set(r, -1), -2);
            Check.same("register kept " + r, forge.register(r), MOST[r]);
            Check.same("set 0 " + r, forge.set(r, 0), MOST[r]);
            forge.set(r, r % 2);
        }
        for (int r = 0; r <= 16; r++) {
            Check.same("each its own " + r, forge.register(r), r % 2);
        }
        for (int r : new int[] {-1, 17, Integer.MAX_VALUE, Integer.MIN_VALUE}) {
            Check.same("register(" + r + ")", forge.register(r), -1);
            Check.same("set(" + r + ", 0)", forge.set(r, 0), -1);
            Check.same("set(" + r + ", -5)", forge.set(r, -5), -1);
        }
        pairsHaveTheHigherFirst();
    }

    /** LD B,1 LD C,2 .. LD A,8, and EXX, EX AF,AF'. */
    private static void pairsHaveTheHigherFirst() {
        OpcodeForge forge = new OpcodeForge();
        Check.putAll(forge, 0, 6, 1, 14, 2, 22, 3, 30, 4, 38, 5, 46, 6, 62, 8, 217, 8);
        Check.same("eight LDs", forge.run(7), 7);
        int[] due = {8 * 256, 258, 772, 1286};
        for (int r = 0; r < 4; r++) {
            Check.same("register of a pair " + r, forge.register(r), due[r]);
        }
        forge.run(2);
        for (int r = 0; r < 4; r++) {
            Check.same("register here " + r, forge.register(r), 0);
            Check.same("register there " + r, forge.register(r + 4), due[r]);
        }
    }

    private static void ports() {
        OpcodeForge forge = new OpcodeForge();
        Check.same("port(0, 9)", forge.port(0, 9), 0);
        Check.same("port(255, 255)", forge.port(255, 255), 0);
        Check.same("port(255, 3)", forge.port(255, 3), 255);
        Check.same("port(0, 8)", forge.port(0, 8), 9);
        Check.same("IN changes no OUT", forge.out(0), 0);
        for (int p : new int[] {-1, 256, Integer.MAX_VALUE, Integer.MIN_VALUE}) {
            Check.same("port(" + p + ", 0)", forge.port(p, 0), -1);
            Check.same("port(" + p + ", 256)", forge.port(p, 256), -1);
            Check.same("out(" + p + ")", forge.out(p), -1);
        }
        Check.same("port(255, 256)", forge.port(255, 256), -2);
        Check.same("port(255, -1)", forge.port(255, -1), -2);
        Check.same("port(255, 3) kept", forge.port(255, 3), 3);
        // IN A,(255)  OUT (7),A  OUT (7),A  LD BC,0x1207  OUT (C),B  OUTI
        Check.putAll(forge, 0, 219, 255, 211, 7, 211, 7, 1, 7, 18, 237, 65, 237, 163);
        forge.put(500, 77);
        forge.set(3, 500);
        forge.run(2);
        Check.same("out(7)", forge.out(7), 3);
        Check.same("outs() 1", forge.outs(), 1);
        forge.run(1);
        Check.same("outs() 2", forge.outs(), 2);
        forge.run(2);
        Check.same("out(7) of B", forge.out(7), 18);
        Check.same("outs() 3", forge.outs(), 3);
        forge.run(1);
        Check.same("out(7) of OUTI", forge.out(7), 77);
        Check.same("outs() 4", forge.outs(), 4);
        Check.same("out(18) is none of them", forge.out(18), 0);
        Check.same("out(17) is none of them", forge.out(17), 0);
    }

    private static void clear() {
        OpcodeForge forge = Check.fed("ORG 9\nX: DB 1,2\nY EQU 5");
        Check.same("forge before clear", forge.forge(), 2);
        forge.write(9);
        for (int r = 0; r <= 16; r++) {
            forge.set(r, 1);
        }
        forge.put(65535, 255);
        forge.port(5, 6);
        forge.set(0, 0x4200);
        // OUT (9),A and EI, which no PLAIN request may follow
        Check.putAll(forge, 1, 211, 9, 251);
        forge.run(2);
        forge.request(0, 9);
        forge.request(1, 9);
        Check.same("outs before clear", forge.outs(), 1);
        Check.same("out before clear", forge.out(9), 0x42);
        forge.clear();
        Check.same("out behind clear", forge.out(9), 0);
        isFirst("clear", forge);
        Check.same("port as at first", forge.port(5, 0), 0);
        Check.same("SOURCE stays", Check.sourceOf(forge), "ORG 9\nX: DB 1,2\nY EQU 5");
        Check.same("LABELS stay", forge.label(0) * 100 + forge.label(1), 905);
        Check.same("LABELS' names stay", Check.labelName(forge, 0) + Check.labelName(forge, 1), "XY");
        Check.same("told stays", forge.told(3) * 100 + forge.told(4), 209);
        Check.same("what was written stays", Check.written(forge), "LD BC,2");
        forge.set(14, 1);
        Check.same("no REQUEST waits", forge.step(), 1);
        Check.same("request is new, PLAIN", forge.request(0, 1), 1);
        Check.same("request is new, HARD", forge.request(1, 1), 1);
        clearForgetsTheEi();
    }

    private static void clearForgetsTheEi() {
        OpcodeForge forge = new OpcodeForge();
        forge.put(0, 251);
        forge.step();
        forge.clear();
        forge.set(14, 1);
        forge.request(0, 8);
        Check.same("clear forgets the EI", forge.step(), 2);
        Check.same("RST 8", forge.register(11), 8);
    }
}
