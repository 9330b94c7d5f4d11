/** Promises 7 to 9 (write, sign, source), and that forge() makes the same octets again (3). */
public final class WriteTest {
    private static final int[][] NUMBERS = {{0, 0, 0}, {5, 1, 2}, {127, 127, 128}, {128, 128, 255}, {251, 255, 255}};
    private static final int[] ADDRESSES = {0, 1000, 65531, 65533, 65535};

    public static void main(String[] args) {
        allCodes();
        edges();
        sources();
        Check.end("WriteTest");
    }

    private static void allCodes() {
        for (int group = Tables.PLAIN; group <= Tables.IY_BITS; group++) {
            for (int octet = 0; octet < 256; octet++) {
                boolean leads = group == Tables.PLAIN && (octet == 203 || octet == 221 || octet == 237 || octet == 253);
                boolean leadsBits = (group == Tables.IX || group == Tables.IY) && octet == 203;
                if (!leads && !leadsBits) {
                    oneCode(group, octet);
                }
            }
        }
    }

    private static void oneCode(int group, int octet) {
        String text = Tables.of(group, octet);
        for (int i = 0; i < NUMBERS.length; i++) {
            int[] number = NUMBERS[i];
            int[] octets = Tables.octets(group, octet, number[0], number[1], number[2]);
            OpcodeForge forge = new OpcodeForge();
            int address = ADDRESSES[i];
            Check.putAll(forge, address, octets);
            int size = text == null ? 1 : Tables.size(group, text);
            String due = text == null ? "DB " + octets[0] : Tables.filled(group, text, address, number[0], number[1], number[2]);
            Check.same("write " + due, forge.write(address), size);
            Check.same("sign of " + due, Check.written(forge), due);
            Check.same("source " + due, forge.source(address, 1), ("ORG " + address + "\n" + due + "\n").length());
            Check.same("sourceAt of " + due, Check.sourceOf(forge), "ORG " + address + "\n" + due + "\n");
            if (address + size <= 65536) {
                String before = Check.octetsAt(forge, address, size);
                OpcodeForge other = Check.fed(Check.sourceOf(forge).toLowerCase().replace(",", " , ").replace("(", "( "));
                Check.same("forge " + due, other.forge(), size);
                Check.same("octets " + due, Check.octetsAt(other, address, size), before);
            }
        }
    }

    private static void edges() {
        OpcodeForge forge = new OpcodeForge();
        Check.same("write(0)", forge.write(0), 1);
        Check.same("NOP", Check.written(forge), "NOP");
        for (int i : new int[] {-1, 3, 32, Integer.MAX_VALUE, Integer.MIN_VALUE}) {
            Check.same("sign(" + i + ")", forge.sign(i), -1);
        }
        forge.put(65535, 24);
        Check.same("write(65535)", forge.write(65535), 2);
        Check.same("JR over the end", Check.written(forge), "JR 1");
        for (int address : new int[] {-1, 65536, Integer.MAX_VALUE, Integer.MIN_VALUE}) {
            Check.same("write(" + address + ")", forge.write(address), -2);
            Check.same("write changed nothing", Check.written(forge), "JR 1");
            Check.same("source(" + address + ", 1)", forge.source(address, 1), -2);
        }
        Check.same("SOURCE is empty still", forge.sourceAt(0), -1);
        Check.putAll(forge, 10, 221, 221, 33, 1, 2, 253, 0, 221, 118, 237, 0, 221, 203, 1, 0);
        String[] due = {"DB 221", "LD IX,513", "DB 253", "NOP", "DB 221", "HALT", "DB 237", "NOP", "DB 221", "RLC C", "NOP"};
        int at = 10;
        for (String text : due) {
            int size = forge.write(at);
            Check.same("at " + at, Check.written(forge), text);
            at += size;
        }
        Check.same("all of them", at, 25);
        Check.same("MEMORY stays", Check.octetsAt(forge, 10, 3), "221 221 33");
        Check.same("registers stay", forge.register(11), 0);
    }

    private static void sources() {
        OpcodeForge forge = new OpcodeForge();
        Check.putAll(forge, 65534, 62, 7, 205, 1, 2, 221);
        forge.write(65534);
        Check.feedMore(forge, "old text\n");
        for (int n : new int[] {0, -1, 301, Integer.MAX_VALUE, Integer.MIN_VALUE}) {
            Check.same("source(0, " + n + ")", forge.source(0, n), -2);
        }
        Check.same("SOURCE stays", Check.sourceOf(forge), "old text\n");
        String due = "ORG 65534\nLD A,7\nCALL 513\nDB 221\nNOP\n";
        Check.same("source(65534, 4)", forge.source(65534, 4), due.length());
        Check.same("its text", Check.sourceOf(forge), due);
        Check.same("what was written stays", Check.written(forge), "LD A,7");
        Check.same("more comes behind it", Check.feedMore(forge, "NOP"), due.length() + 3);
        long300(forge);
        for (int number : new int[] {0, 1, 9, 10, 99, 100, 101, 999, 1000, 9999, 10000, 19999, 20000, 30000, 59999, 60000, 65535}) {
            OpcodeForge other = new OpcodeForge();
            Check.putAll(other, number, 195, number & 255, number >> 8);
            other.source(number, 1);
            Check.same("source at " + number, Check.sourceOf(other), "ORG " + number + "\nJP " + number + "\n");
        }
    }

    private static void long300(OpcodeForge forge) {
        Check.same("300 of them", forge.source(4, 300), 6 + 300 * 4);
        Check.same("301 lines", forge.forge(), -19);
        Check.same("the 301st", forge.told(0), 301);
        Check.same("299 of them", forge.source(4, 299), 6 + 299 * 4);
        Check.same("300 lines", forge.forge(), 299);
        Check.same("told(5)", forge.told(5), 303);
    }
}
