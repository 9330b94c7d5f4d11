import java.util.ArrayList;
import java.util.List;

/** What all tests use: counting, and ways to hand texts to the program and to take them from it. */
final class Check {
    private static int passed = 0;
    private static int failed = 0;
    private static String sentence = "";

    private Check() {
    }

    /** The sentence of the document that the checks from here on hold: its promise, or its place in "Terms". */
    static void holds(String place, String words) {
        sentence = place + ", \"" + words + "\": ";
    }

    static void same(String what, long got, long due) {
        if (got == due) {
            passed++;
        } else {
            tellOf(what + ": answered " + got + ", due is " + due);
        }
    }

    static void same(String what, String got, String due) {
        if (got.equals(due)) {
            passed++;
        } else {
            tellOf(what + ": answered [" + got + "], due is [" + due + "]");
        }
    }

    private static void tellOf(String failure) {
        failed++;
        if (failed <= 40) {
            System.out.println(sentence + failure);
        }
    }

    static void end(String name) {
        System.out.println(name + ": " + passed + " passed, " + failed + " failed");
        if (failed > 0) {
            System.exit(1);
        }
    }

    /** Bytes 0 to 255 of the text come behind SOURCE, eight at a time. */
    static int feedMore(OpcodeForge forge, String text) {
        int answer = 0;
        for (int from = 0; from < text.length(); from += 8) {
            int to = Math.min(from + 8, text.length());
            long v = 0;
            for (int i = from; i < to; i++) {
                v = v << 8 | text.charAt(i);
            }
            answer = forge.feed(v, to - from);
        }
        return answer;
    }

    static OpcodeForge fed(String text) {
        OpcodeForge forge = new OpcodeForge();
        feedMore(forge, text);
        return forge;
    }

    /** A forge() that goes well: how many octets, and those at an address, decimal, with blanks. */
    static void forges(String text, int address, String octets) {
        OpcodeForge forge = fed(text);
        List<Integer> wanted = numbers(octets);
        same("forge " + text, forge.forge(), wanted.size());
        same("told(0) of " + text, forge.told(0), 0);
        same("told(1) of " + text, forge.told(1), 0);
        same("octets of " + text, octetsAt(forge, address, wanted.size()), join(wanted));
    }

    /** A forge() that finds a FAULT at the place of the sign that stands behind the mark ` in the text. */
    static void faults(String marked, int code) {
        int place = marked.indexOf('`');
        String text = marked.substring(0, place) + marked.substring(place + 1);
        int line = 1;
        for (int i = 0; i < place; i++) {
            line += text.charAt(i) == '\n' ? 1 : 0;
        }
        faults(text, code, line, place);
    }

    static void faults(String text, int code, int line, int place) {
        OpcodeForge forge = fed(text);
        same("forge " + text, forge.forge(), -10 - code);
        same("told(0) of " + text, forge.told(0), line);
        same("told(1) of " + text, forge.told(1), place);
    }

    static List<Integer> numbers(String text) {
        List<Integer> numbers = new ArrayList<>();
        for (String word : text.trim().split(" +")) {
            if (!word.isEmpty()) {
                numbers.add(Integer.parseInt(word));
            }
        }
        return numbers;
    }

    static String join(List<Integer> numbers) {
        StringBuilder text = new StringBuilder();
        for (int number : numbers) {
            text.append(number).append(' ');
        }
        return text.toString().trim();
    }

    static String octetsAt(OpcodeForge forge, int address, int n) {
        List<Integer> octets = new ArrayList<>();
        for (int i = 0; i < n; i++) {
            octets.add(forge.octet(address + i & 65535));
        }
        return join(octets);
    }

    static void putAll(OpcodeForge forge, int address, int... octets) {
        for (int i = 0; i < octets.length; i++) {
            forge.put(address + i & 65535, octets[i]);
        }
    }

    static String written(OpcodeForge forge) {
        StringBuilder text = new StringBuilder();
        for (int i = 0; forge.sign(i) >= 0; i++) {
            text.append((char) forge.sign(i));
        }
        return text.toString();
    }

    static String sourceOf(OpcodeForge forge) {
        StringBuilder text = new StringBuilder();
        for (int i = 0; forge.sourceAt(i) >= 0; i++) {
            text.append((char) forge.sourceAt(i));
        }
        return text.toString();
    }

    static String labelName(OpcodeForge forge, int i) {
        StringBuilder text = new StringBuilder();
        for (int k = 0; forge.labelSign(i, k) >= 0; k++) {
            text.append((char) forge.labelSign(i, k));
        }
        return text.toString();
    }
}
