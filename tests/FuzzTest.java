import java.util.ArrayList;
import java.util.List;
import java.util.Map;
import java.util.Random;
import java.util.regex.Matcher;

/** Promises 3 to 6 on random SOURCEs, whole and broken ones, against Reference. */
public final class FuzzTest {
    private static final String[] PIECES = {"A", "B", "C", "HL", "(HL)", "BC", "SP", "(C)", "AF", "AF'", "IX", "(IX)", "(IX+5)", "(IY-5)", "NZ", "M",
        "I", "R", "(", ")", "(", ")", ",", ",", ":", "+", "-", "*", "/", "&", "|", "^", "~", "@", "<<", ">>", "<", "?", ";", " ", "  ", "\t", "\r",
        "0", "1", "5", "7", "8", "56", "127", "128", "255", "256", "65535", "65536", "$FF", "%101", "'x'", "'", "\"ab\"", "\"", "\"\"",
        "X", "Y", "Z", "W", "x", "LD", "ADD", "NOP", "ORG", "EQU", "DB", "DW", "DS", "IF", "ELSE", "ENDIF", "JR", "JP", "BIT", "RST", "IM",
        "\n", "\n", "a23456789012", "a234567890123", "5ENDIF", "AF' : ENDIF", "(IX", "1/0", "-1", "\200"};
    private static final String[] WORDS = {"LD", "ADD", "JP", "JR", "BIT", "SET", "RST", "IM", "EX", "IN", "OUT", "RLC", "DJNZ", "CALL", "RET", "INC",
        "PUSH", "SUB", "ADC", "NOP", "EXX"};
    private static final String[] OPERANDS = {"A", "B", "C", "H", "HL", "(HL)", "BC", "(BC)", "DE", "SP", "(SP)", "(C)", "AF", "AF'", "IX", "IY",
        "(IX)", "NZ", "M", "I", "R"};
    private static final String[] NAMES = {"X", "Y", "W", "Q", "LONG_NAME_12", "x", "Z", "HL"};

    private final Random random = new Random(7);
    private String latestBroken = "DB ((((-~1";

    public static void main(String[] args) {
        new FuzzTest().all();
        Check.end("FuzzTest");
    }

    private void all() {
        int[] codes = new int[10];
        for (int i = 0; i < 60000; i++) {
            String text = random.nextInt(4) == 0 ? heap() : lines();
            if (random.nextInt(3) == 0) {
                text = broken(text);
            }
            int code = compare(text);
            codes[code]++;
        }
        for (int code = 0; code <= 8; code++) {
            Check.same("enough SOURCEs end with " + code, codes[code] >= 100 ? 1 : 0, 1);
        }
    }

    private String one(String[] list) {
        return list[random.nextInt(list.length)];
    }

    /** Pieces, just as they come. */
    private String heap() {
        StringBuilder text = new StringBuilder();
        int n = 1 + random.nextInt(12);
        for (int i = 0; i < n; i++) {
            text.append(one(PIECES));
            text.append(random.nextInt(3) == 0 ? " " : "");
        }
        return text.toString();
    }

    /** One piece more, or one sign less, or two lines exchanged. */
    private String broken(String text) {
        int place = random.nextInt(text.length() + 1);
        if (random.nextBoolean() || place == text.length()) {
            return text.substring(0, place) + one(PIECES) + text.substring(place);
        }
        return text.substring(0, place) + text.substring(place + 1);
    }

    private String lines() {
        StringBuilder text = new StringBuilder();
        int n = 1 + random.nextInt(8);
        List<String> open = new ArrayList<>();
        for (int i = 0; i < n; i++) {
            String line = line(open);
            text.append(random.nextInt(6) == 0 ? one(NAMES) + ": " : "").append(line).append(random.nextInt(8) == 0 ? " ; x" : "").append('\n');
        }
        for (int i = 0; i < open.size(); i++) {
            text.append(random.nextInt(20) == 0 ? "" : "ENDIF\n");
        }
        return text.toString();
    }

    private String line(List<String> open) {
        switch (random.nextInt(12)) {
            case 0:
                return "ORG " + (random.nextInt(3) == 0 ? one(new String[] {"65535", "65534", "65530", "0", "9"}) : exp(1));
            case 1:
                return one(NAMES) + " EQU " + exp(2);
            case 2:
                return "DB " + items(true);
            case 3:
                return "DW " + items(false);
            case 4:
                return "DS " + exp(1) + (random.nextBoolean() ? "," + exp(1) : "");
            case 5:
                if (random.nextInt(3) == 0) {
                    return one(new String[] {"ELSE", "ENDIF"});
                }
                open.add("IF");
                return "IF " + exp(1);
            case 6:
                return !open.isEmpty() && random.nextInt(4) > 0 ? "ELSE" : "";
            case 7:
            case 8:
                return written();
            default:
                String text = one(WORDS);
                int n = random.nextInt(10) < 6 ? 2 : random.nextInt(4);
                for (int i = 0; i < n; i++) {
                    text += (i == 0 ? " " : ",") + operand();
                }
                return text;
        }
    }

    /** An instruction that there is, with expressions for its numbers. */
    private String written() {
        String text = null;
        while (text == null) {
            text = Tables.of(random.nextInt(7), random.nextInt(256));
        }
        text = text.replace("d)", (random.nextBoolean() ? "+" : "-") + exp(1) + ")");
        return text.replaceAll("\\b[nme]\\b", Matcher.quoteReplacement(exp(2)));
    }

    private String operand() {
        switch (random.nextInt(5)) {
            case 0:
                return "(" + exp(2) + ")";
            case 1:
                return one(new String[] {"(IX+", "(IY-", "(IX", "(IY * "}) + exp(1) + ")";
            case 2:
                return exp(2);
            default:
                return one(OPERANDS);
        }
    }

    private String items(boolean texts) {
        StringBuilder text = new StringBuilder();
        int n = 1 + random.nextInt(3);
        for (int i = 0; i < n; i++) {
            text.append(i > 0 ? "," : "").append(texts && random.nextInt(4) == 0 ? "\"a;'\"" : exp(2));
        }
        return text.toString();
    }

    private String exp(int depth) {
        switch (depth == 0 ? random.nextInt(5) : random.nextInt(9)) {
            case 0:
            case 1:
                return "" + one(new String[] {"0", "1", "2", "5", "8", "40", "100", "127", "128", "255", "256", "1000", "65535"});
            case 2:
                return random.nextInt(3) == 0 ? "@" : "" + random.nextInt(10);
            case 3:
                return random.nextInt(3) == 0 ? one(new String[] {"@+5", "@", "@-3"}) : "'a'";
            case 4:
                return one(NAMES);
            case 5:
                return "(" + exp(depth - 1) + ")";
            case 6:
                return one(new String[] {"-", "~", "- ", "-~"}) + exp(depth - 1);
            default:
                return exp(depth - 1) + one(new String[] {"+", "-", "*", "/", "&", "|", "^", "<<", ">>", " + ", "+"}) + exp(depth - 1);
        }
    }

    private int compare(String text) {
        Reference due = new Reference(text);
        OpcodeForge forge = Check.fed(latestBroken);
        if (random.nextBoolean()) {
            forge.forge();
        }
        forge.feed(0, 0);
        Check.feedMore(forge, text);
        Check.same("forge [" + text + "]", forge.forge(), due.code > 0 ? -10 - due.code : due.puts);
        Check.same("line [" + text + "]", forge.told(0), due.line);
        Check.same("place [" + text + "]", forge.told(1), due.place);
        if (due.code > 0) {
            latestBroken = text;
            Check.same("nothing told [" + text + "]", forge.told(2) + forge.told(3) + forge.told(4) + forge.told(5), 0);
            Check.same("no LABEL [" + text + "]", forge.labelSign(0, 0), -1);
            return due.code;
        }
        Check.same("lines [" + text + "]", forge.told(2), due.lines);
        Check.same("labels [" + text + "]", forge.told(3), due.labels.size());
        Check.same("first [" + text + "]", forge.told(4), due.first);
        Check.same("behind [" + text + "]", forge.told(5), due.address);
        int i = 0;
        for (Map.Entry<String, Integer> label : due.labels.entrySet()) {
            Check.same("label [" + text + "]", Check.labelName(forge, i), label.getKey());
            Check.same("value [" + text + "]", forge.label(i), label.getValue());
            i++;
        }
        int shown = 0;
        for (int address = 0; address < 65536 && shown < 200; address++) {
            if (due.memory[address] != 0) {
                Check.same("octet " + address + " [" + text + "]", forge.octet(address), due.memory[address]);
                shown++;
            }
        }
        return 0;
    }
}
