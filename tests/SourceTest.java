/** Promises 2 (feed) and 10 (sourceAt). */
public final class SourceTest {
    public static void main(String[] args) {
        OpcodeForge forge = new OpcodeForge();
        Check.same("feed of 8", forge.feed(0x0102030405060708L, 8), 8);
        for (int i = 0; i < 8; i++) {
            Check.same("highest first " + i, forge.sourceAt(i), i + 1);
        }
        Check.same("feed of 3", forge.feed(-1L, 3), 11);
        Check.same("sourceAt(10)", forge.sourceAt(10), 255);
        Check.same("sourceAt(11)", forge.sourceAt(11), -1);
        Check.same("feed: the lowest bytes alone", forge.feed(0x1122L, 1), 12);
        Check.same("sourceAt(11) then", forge.sourceAt(11), 0x22);
        Check.same("feed of negative", forge.feed(Long.MIN_VALUE, 8), 20);
        Check.same("sourceAt(12)", forge.sourceAt(12), 128);
        Check.same("sourceAt(13)", forge.sourceAt(13), 0);
        for (int n : new int[] {-1, 9, Integer.MAX_VALUE, Integer.MIN_VALUE}) {
            Check.same("feed(0, " + n + ")", forge.feed(0, n), -2);
        }
        for (int i : new int[] {-1, 20, 6000, Integer.MAX_VALUE, Integer.MIN_VALUE}) {
            Check.same("sourceAt(" + i + ")", forge.sourceAt(i), -1);
        }
        Check.same("feed(5, 0)", forge.feed(5, 0), 0);
        Check.same("empty", forge.sourceAt(0), -1);
        Check.same("feed again", forge.feed(65, 1), 1);
        Check.same("sourceAt(0)", forge.sourceAt(0), 65);
        room();
        Check.end("SourceTest");
    }

    private static void room() {
        OpcodeForge forge = new OpcodeForge();
        // SET 0,(IX-128) is as long as lines are; feed does the rest
        for (int i = 0; i < 2048; i += 4) {
            Check.putAll(forge, i, 221, 203, 128, 198);
        }
        int length = forge.source(30000, 300);
        Check.same("ORG line and 300 NOPs", length, 10 + 300 * 4);
        length = forge.source(0, 300);
        Check.same("the longest lines", length, 6 + 300 * 15);
        while (length + 8 <= 6000) {
            length = forge.feed(0x4142434445464748L, 8);
        }
        Check.same("nearly full", length, 5994);
        int left = 6;
        Check.same("one too many", forge.feed(0, left + 1), -4);
        Check.same("nothing came", forge.sourceAt(length), -1);
        Check.same("out of range comes first", forge.feed(0, 9), -2);
        Check.same("the last ones", forge.feed(0x5A5A5A5A5A5A5A5AL, left), 6000);
        Check.same("sourceAt(5999)", forge.sourceAt(5999), 0x5A);
        Check.same("sourceAt(6000)", forge.sourceAt(6000), -1);
        Check.same("full", forge.feed(0, 1), -4);
        Check.same("emptied", forge.feed(0, 0), 0);
        Check.same("room again", forge.feed(1, 8), 8);
    }
}
