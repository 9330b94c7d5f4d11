import java.io.IOException;
import java.lang.reflect.Method;
import java.lang.reflect.Modifier;
import java.nio.file.Files;
import java.nio.file.Path;
import java.util.LinkedHashMap;
import java.util.Map;
import java.util.regex.Matcher;
import java.util.regex.Pattern;

/**
 * README.md tells the truth: its examples stand here, line by line, and answer what it says behind each; its table
 * names each method of the public face. Run where README.md stands.
 */
public final class ReadmeTest {
    private static final Pattern EXAMPLE = Pattern.compile("(?s)```java\n(.*?)```");
    private static final Pattern ANSWER = Pattern.compile("(?:int|long) (\\w+) = .*// *(-?\\d+).*");

    public static void main(String[] args) throws IOException {
        String page = Files.readString(Path.of("README.md"));
        examplesHold(page, Files.readString(Path.of("tests/ReadmeTest.java")));
        tableHasEachMethod(page);
        Check.end("ReadmeTest");
    }

    private static void examplesHold(String page, String here) {
        Map<String, Long> answers = answers();
        int told = 0;
        Matcher example = EXAMPLE.matcher(page);
        while (example.find()) {
            for (String line : example.group(1).split("\n")) {
                String code = line.replaceAll(" *//.*", "").trim();
                Check.same("stands in ReadmeTest: " + code, here.contains(" " + code + "\n") ? 1 : 0, 1);
                Matcher answer = ANSWER.matcher(line);
                if (answer.matches()) {
                    Check.same("is answered here: " + code, answers.containsKey(answer.group(1)) ? 1 : 0, 1);
                    Check.same(code, answers.getOrDefault(answer.group(1), Long.MIN_VALUE), Long.parseLong(answer.group(2)));
                    told++;
                }
            }
        }
        Check.same("answers that README.md tells", told, answers.size());
    }

    private static void tableHasEachMethod(String page) {
        int methods = 0;
        for (Method method : OpcodeForge.class.getDeclaredMethods()) {
            if (Modifier.isPublic(method.getModifiers())) {
                boolean has = Pattern.compile("(?m)^\\| `" + method.getName() + "\\([^`]*\\)` \\| \\S").matcher(page).find();
                Check.same("the table has " + method.getName(), has ? 1 : 0, 1);
                methods++;
            }
        }
        Check.same("methods of the public face", methods, 20);
        Check.same("the table has the constructor", page.contains("| `new OpcodeForge()` |") ? 1 : 0, 1);
    }

    private static Map<String, Long> answers() {
        Map<String, Long> answers = new LinkedHashMap<>();
        OpcodeForge forge = new OpcodeForge();
        String text = "LD A,5\nX: DEC A\nJR NZ,X\nHALT\n";
        for (char sign : text.toCharArray()) {
            forge.feed(sign, 1);
        }
        int octets = forge.forge();
        answers.put("octets", (long) octets);
        int lines = forge.told(2);
        answers.put("lines", (long) lines);
        int value = forge.label(0);
        answers.put("value", (long) value);
        int letter = forge.labelSign(0, 0);
        answers.put("letter", (long) letter);
        int steps = forge.run(1000);
        answers.put("steps", (long) steps);
        int af = forge.register(0);
        answers.put("af", (long) af);
        int size = forge.write(2);
        answers.put("size", (long) size);
        int sign0 = forge.sign(0);
        answers.put("sign0", (long) sign0);
        int bytes = forge.source(0, 4);
        answers.put("bytes", (long) bytes);
        Check.same("SOURCE", Check.sourceOf(forge), "ORG 0\nLD A,5\nDEC A\nJR NZ,2\nHALT\n");
        int byte0 = forge.sourceAt(0);
        answers.put("byte0", (long) byte0);
        ofTheMachine(forge, answers);
        ofTheFault(forge, answers);
        return answers;
    }

    private static void ofTheMachine(OpcodeForge forge, Map<String, Long> answers) {
        forge.clear();
        int[] program = {251, 219, 7, 211, 9, 118};
        for (int i = 0; i < program.length; i++) {
            forge.put(i, program[i]);
        }
        int octet = forge.octet(2);
        answers.put("octet", (long) octet);
        int inputBefore = forge.port(7, 42);
        answers.put("inputBefore", (long) inputBefore);
        int again = forge.run(100);
        answers.put("again", (long) again);
        int output = forge.out(9);
        answers.put("output", (long) output);
        long count = forge.outs();
        answers.put("count", count);
        int waits = forge.request(0, 16);
        answers.put("waits", (long) waits);
        int answer = forge.step();
        answers.put("answer", (long) answer);
        int pc = forge.register(11);
        answers.put("pc", (long) pc);
        int pcBefore = forge.set(11, 300);
        answers.put("pcBefore", (long) pcBefore);
    }

    private static void ofTheFault(OpcodeForge forge, Map<String, Long> answers) {
        forge.feed(0, 0);
        forge.feed('?', 1);
        int fault = forge.forge();
        answers.put("fault", (long) fault);
        int line = forge.told(0);
        answers.put("line", (long) line);
        int place = forge.told(1);
        answers.put("place", (long) place);
    }
}
