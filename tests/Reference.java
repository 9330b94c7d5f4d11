import java.util.ArrayList;
import java.util.LinkedHashMap;
import java.util.List;
import java.util.Map;
import java.util.Set;
import java.util.TreeSet;
import java.util.regex.Matcher;
import java.util.regex.Pattern;

/**
 * The forge once more, for the tests: tokens by patterns, expressions by recursive descent, encodings by going through
 * the texts of Tables; the faults of a line are all gathered, and the first one is looked for then.
 */
final class Reference {
    private static final Pattern TOKEN = Pattern.compile("(?<name>[A-Za-z_][A-Za-z_0-9]*)|(?<number>[0-9]+|\\$[0-9A-Fa-f]+|%[01]+|'[ -~]')"
        + "|(?<text>\"[ !#-~]*\")|(?<sign><<|>>|[(),:+\\-*/&|^~@])");
    private static final Set<String> OPERANDS = Set.of("A", "B", "C", "D", "E", "H", "L", "I", "R", "AF", "AF'", "BC", "DE", "HL", "SP",
        "IX", "IY", "NZ", "Z", "NC", "PO", "PE", "P", "M");
    private static final Set<String> PLACES = Set.of("HL", "BC", "DE", "SP", "C", "IX", "IY");
    private static final Set<String> DIRECTIVES = Set.of("ORG", "EQU", "DB", "DW", "DS", "IF", "ELSE", "ENDIF");
    private static final List<String[]> CODES = new ArrayList<>();
    private static final Set<String> WORDS = new TreeSet<>();

    static {
        for (int group = 0; group < 7; group++) {
            for (int octet = 0; octet < 256; octet++) {
                String text = Tables.of(group, octet);
                if (text != null) {
                    int space = text.indexOf(' ');
                    String word = space < 0 ? text : text.substring(0, space);
                    String[] operands = space < 0 ? new String[0] : text.substring(space + 1).split(",");
                    CODES.add(new String[] {word, operands.length > 0 ? operands[0] : "", operands.length > 1 ? operands[1] : "",
                        "" + group, "" + octet, text});
                    WORDS.add(word);
                }
            }
        }
    }

    private static final class Token {
        String kind = "end";
        String text = "";
        int place;
        int value;

        boolean is(String sign) {
            return kind.equals("sign") && text.equals(sign);
        }

        boolean isWord(String word) {
            return kind.equals("name") && text.equals(word);
        }
    }

    /** A line is read no further. */
    private static final class Stop extends RuntimeException {
        private static final long serialVersionUID = 1;

        Stop() {
            super(null, null, false, false);
        }
    }

    private static final class Operand {
        String shape;
        Integer value;
        int place;
    }

    int code = 0;
    int line = 0;
    int place = 0;
    int lines = 0;
    int first = 0;
    int puts = 0;
    int address = 0;
    final Map<String, Integer> labels = new LinkedHashMap<>();
    final int[] memory = new int[65536];
    private final String source;
    private final List<int[]> faults = new ArrayList<>();
    private final List<int[]> ifs = new ArrayList<>();
    private List<Token> tokens;
    private int at;
    private int pass;
    private int open;

    Reference(String source) {
        this.source = source;
        String[] texts = source.split("\n", -1);
        lines = source.isEmpty() ? 0 : source.endsWith("\n") ? texts.length - 1 : texts.length;
        for (pass = 1; pass <= 2 && code == 0; pass++) {
            address = 0;
            ifs.clear();
            int from = 0;
            for (int i = 0; i < lines && code == 0; i++) {
                faults.clear();
                try {
                    oneLine(i + 1, from, from + texts[i].length());
                } catch (Stop stop) {
                    // the line is read no further
                }
                if (i == lines - 1 && !ifs.isEmpty()) {
                    faults.add(new int[] {source.length(), 7});
                }
                choose(i + 1);
                from += texts[i].length() + 1;
            }
        }
    }

    private void choose(int number) {
        for (int[] fault : faults) {
            boolean nine = fault[1] == 9;
            if (code == 0 || fault[0] < place || fault[0] == place && (nine || fault[1] < code && code != 9)) {
                place = fault[0];
                code = fault[1];
                line = number;
            }
        }
    }

    private void fault(int where, int which) {
        faults.add(new int[] {where, which});
    }

    private void stop(int where, int which) {
        fault(where, which);
        throw new Stop();
    }

    private boolean done() {
        for (int[] state : ifs) {
            if (state[0] == 0) {
                return false;
            }
        }
        return true;
    }

    private void oneLine(int number, int from, int end) {
        if (number > 300) {
            stop(from, 9);
        }
        if (!done()) {
            String text = source.substring(from, end);
            Matcher matcher = Pattern.compile("[ \t\r]*([A-Za-z_][A-Za-z0-9_]*)[ \t\r]*(:[ \t\r]*([A-Za-z_][A-Za-z0-9_]*)?)?").matcher(text);
            if (matcher.lookingAt()) {
                int group = matcher.group(2) != null ? 3 : 1;
                String word = matcher.group(group) == null ? "" : matcher.group(group).toUpperCase();
                if (word.equals("IF") || word.equals("ELSE") || word.equals("ENDIF")) {
                    turn(word, from + matcher.start(group), 0);
                }
            }
            return;
        }
        tokens = cut(from, end);
        at = 0;
        if (token(0).kind.equals("name") && token(1).is(":")) {
            told(token(0));
            tell(token(0), address);
            at = 2;
        }
        if (!token(0).kind.equals("end")) {
            statement();
        }
    }

    private void turn(String word, int where, int value) {
        if (word.equals("IF")) {
            if (ifs.size() == 8) {
                stop(where, 7);
            }
            ifs.add(new int[] {value != 0 ? 1 : 0, 0});
            return;
        }
        if (ifs.isEmpty() || word.equals("ELSE") && ifs.get(ifs.size() - 1)[1] == 1) {
            stop(where, 7);
        }
        int[] state = ifs.get(ifs.size() - 1);
        if (word.equals("ENDIF")) {
            ifs.remove(ifs.size() - 1);
        } else {
            state[0] = 1 - state[0];
            state[1] = 1;
        }
    }

    private Token token(int more) {
        return tokens.get(Math.min(at + more, tokens.size() - 1));
    }

    private List<Token> cut(int from, int end) {
        List<Token> list = new ArrayList<>();
        int where = from;
        while (true) {
            while (where < end && " \t\r".indexOf(source.charAt(where)) >= 0) {
                where++;
            }
            Token token = new Token();
            token.place = where;
            list.add(token);
            if (where >= end || source.charAt(where) == ';') {
                token.place = end;
                return list;
            }
            Matcher matcher = TOKEN.matcher(source).region(where, end);
            token.kind = "bad";
            if (!matcher.lookingAt()) {
                return list;
            }
            String text = matcher.group();
            where += text.length();
            if (matcher.group("name") != null) {
                token.text = text.toUpperCase();
                if (text.length() > 12) {
                    return list;
                }
                if (token.text.equals("AF") && where < end && source.charAt(where) == '\'') {
                    token.text = "AF'";
                    where++;
                }
                token.kind = "name";
            } else if (matcher.group("number") != null) {
                double value = numberOf(text);
                if (value > 65535) {
                    return list;
                }
                token.value = (int) value;
                token.kind = "number";
            } else {
                token.text = text;
                token.kind = matcher.group("text") != null ? "text" : "sign";
            }
        }
    }

    private double numberOf(String text) {
        if (text.startsWith("'")) {
            return text.charAt(1);
        }
        int base = text.startsWith("$") ? 16 : text.startsWith("%") ? 2 : 10;
        double value = 0;
        for (char digit : (base == 10 ? text : text.substring(1)).toCharArray()) {
            value = value * base + Character.digit(digit, base);
        }
        return value;
    }

    private boolean reserved(String name) {
        return OPERANDS.contains(name) || WORDS.contains(name) || DIRECTIVES.contains(name);
    }

    private void told(Token name) {
        if (pass == 1 && (reserved(name.text) || labels.containsKey(name.text) || labels.size() == 200)) {
            stop(name.place, 3);
        }
    }

    private void tell(Token name, Integer value) {
        if (pass == 1 && value != null) {
            labels.put(name.text, value);
        }
    }

    private void refuse() {
        stop(token(0).place, token(0).kind.equals("bad") ? 1 : 2);
    }

    private void end() {
        if (!token(0).kind.equals("end")) {
            refuse();
        }
    }

    private void statement() {
        Token word = token(0);
        if (!word.kind.equals("name")) {
            refuse();
        }
        if (token(1).isWord("EQU")) {
            told(word);
            at += 2;
            Integer value = exp(1);
            end();
            tell(word, value);
            return;
        }
        at++;
        if (WORDS.contains(word.text)) {
            instruction(word);
            return;
        }
        switch (word.text) {
            case "ORG":
                Integer to = number(1, 0, 65535);
                end();
                address = to == null ? address : to;
                break;
            case "DB":
            case "DW":
                data(word);
                break;
            case "DS":
                space(word);
                break;
            case "IF":
                if (ifs.size() == 8) {
                    stop(word.place, 7);
                }
                Integer value = exp(1);
                end();
                turn("IF", word.place, value == null ? 0 : value);
                break;
            case "ELSE":
            case "ENDIF":
                int[] before = ifs.isEmpty() ? new int[] {0, 1} : ifs.get(ifs.size() - 1);
                if (ifs.isEmpty() || word.text.equals("ELSE") && before[1] == 1) {
                    stop(word.place, 7);
                }
                end();
                turn(word.text, word.place, 0);
                break;
            default:
                stop(word.place, 6);
        }
    }

    private Integer number(int when, int low, int high) {
        int where = token(0).place;
        Integer value = exp(when);
        if (value != null && pass == when && (value < low || value > high)) {
            fault(where, 5);
        }
        return value;
    }

    private void put(int octet) {
        if (pass == 2 && address < 65536) {
            first = puts == 0 ? address : first;
            puts++;
            memory[address] = octet & 255;
        }
        address++;
    }

    private void room(Token word, int size) {
        if (pass == 1 && address + size > 65536) {
            fault(word.place, 8);
        }
    }

    private void data(Token word) {
        List<Integer> octets = new ArrayList<>();
        at--;
        do {
            at++;
            if (token(0).kind.equals("text") && word.text.equals("DB")) {
                for (int i = 1; i < token(0).text.length() - 1; i++) {
                    octets.add((int) token(0).text.charAt(i));
                }
                at++;
            } else if (word.text.equals("DB")) {
                Integer value = number(2, -128, 255);
                octets.add(value == null ? 0 : value);
            } else {
                Integer value = number(2, -32768, 65535);
                octets.add(value == null ? 0 : value);
                octets.add(value == null ? 0 : value >> 8);
            }
        } while (token(0).is(","));
        end();
        room(word, octets.size());
        for (int octet : octets) {
            put(octet);
        }
    }

    private void space(Token word) {
        Integer size = number(1, 0, 65535);
        Integer octet = 0;
        if (token(0).is(",")) {
            at++;
            octet = number(2, -128, 255);
        }
        end();
        if (size != null && size >= 0 && size <= 65535) {
            room(word, size);
            for (int i = 0; i < size; i++) {
                put(octet == null ? 0 : octet);
            }
        }
    }

    private void instruction(Token word) {
        List<Operand> operands = new ArrayList<>();
        if (!token(0).kind.equals("end")) {
            operands.add(operand(word.text));
            if (token(0).is(",")) {
                at++;
                operands.add(operand(word.text));
            }
            end();
        }
        for (boolean exactly : new boolean[] {true, false}) {
            for (String[] text : CODES) {
                if (text[0].equals(word.text) && matches(text, operands, exactly)) {
                    encode(word, text, operands);
                    return;
                }
            }
        }
        fault(word.place, 6);
    }

    private boolean matches(String[] text, List<Operand> operands, boolean exactly) {
        for (int i = 0; i < 2; i++) {
            String shape = i < operands.size() ? operands.get(i).shape : "";
            String due = text[1 + i];
            boolean number = due.matches("[0-9]+");
            boolean fits = shape.equals("x") && (due.matches("[nme]") || number) || shape.equals("(x)") && due.matches("\\([nm]\\)")
                || shape.equals(due) && !due.matches("[nme]");
            if (fits && number && exactly) {
                fits = operands.get(i).value != null && operands.get(i).value == Integer.parseInt(due);
            }
            if (!fits) {
                return false;
            }
        }
        return true;
    }

    private void encode(Token word, String[] text, List<Operand> operands) {
        int group = Integer.parseInt(text[3]);
        int octet = Integer.parseInt(text[4]);
        int size = Tables.size(group, text[5]);
        room(word, size);
        int d = 0;
        List<Integer> numbers = new ArrayList<>();
        for (int i = 0; i < operands.size(); i++) {
            Operand operand = operands.get(i);
            String due = text[1 + i];
            int value = operand.value == null ? 0 : operand.value;
            int low = -128;
            int high = 255;
            if (due.endsWith("d)")) {
                d = value;
                high = 127;
            } else if (due.contains("e") && due.length() == 1) {
                value = (short) (value - address - size);
                high = 127;
                numbers.add(value);
            } else if (due.equals("m") || due.equals("(m)")) {
                low = -32768;
                high = 65535;
                numbers.add(value);
                numbers.add(value >> 8);
            } else if (due.equals("n") || due.equals("(n)")) {
                numbers.add(value);
            } else if (due.matches("[0-9]+")) {
                low = Integer.parseInt(due);
                high = low;
            }
            if (pass == 2 && operand.value != null && (value < low || value > high)) {
                fault(operand.place, 5);
            }
        }
        int low = numbers.size() > 0 ? numbers.get(0) : 0;
        int high = numbers.size() > 1 ? numbers.get(1) : 0;
        int[] octets = Tables.octets(group, octet, d, low, high);
        for (int i = 0; i < size; i++) {
            put(octets[i]);
        }
    }

    /** The token that ends an operand that is a place, -1 if it is none. */
    private int closing() {
        int depth = 0;
        for (int i = at; i < tokens.size() && token(0).is("("); i++) {
            depth += tokens.get(i).is("(") ? 1 : tokens.get(i).is(")") ? -1 : 0;
            if (depth == 0) {
                Token behind = tokens.get(i + 1);
                return behind.is(",") || behind.kind.equals("end") ? i : -1;
            }
        }
        return -1;
    }

    private Operand operand(String word) {
        Operand operand = new Operand();
        int last = closing();
        String name = token(1).text;
        if (last < 0) {
            boolean alone = token(1).is(",") || token(1).kind.equals("end");
            if (alone && token(0).kind.equals("name") && OPERANDS.contains(token(0).text)) {
                operand.shape = token(0).text;
                at++;
                return operand;
            }
            operand.shape = "x";
            operand.place = token(0).place;
            operand.value = exp(2);
            return operand;
        }
        if (last == at + 2 && token(1).kind.equals("name") && PLACES.contains(name)) {
            boolean near = name.startsWith("I") && !word.equals("JP");
            operand.shape = near ? "(" + name + "d)" : "(" + name + ")";
            operand.value = near ? 0 : null;
            at += 3;
            return operand;
        }
        boolean near = (token(1).isWord("IX") || token(1).isWord("IY")) && (token(2).is("+") || token(2).is("-"));
        boolean minus = near && token(2).is("-");
        operand.shape = near ? "(" + name + "d)" : "(x)";
        at += near ? 3 : 1;
        operand.place = token(0).place;
        operand.value = exp(2);
        if (minus && operand.value != null) {
            operand.value = -operand.value;
        }
        if (at != last) {
            refuse();
        }
        at++;
        return operand;
    }

    /** The value, null where it is not known; reports 4 and 5 in one pass. */
    private Integer exp(int when) {
        open = 0;
        return level(0, when);
    }

    private static final String[][] LEVELS = {{"|"}, {"^"}, {"&"}, {"<<", ">>"}, {"+", "-"}, {"*", "/"}};

    private Integer level(int level, int when) {
        if (level == LEVELS.length) {
            return unary(when);
        }
        Integer value = level(level + 1, when);
        while (token(0).kind.equals("sign") && List.of(LEVELS[level]).contains(token(0).text)) {
            Token sign = token(0);
            at++;
            Integer other = level(level + 1, when);
            if (sign.is("/") && other != null && other == 0) {
                if (pass == when) {
                    fault(sign.place, 5);
                }
                value = null;
            } else {
                value = value == null || other == null ? null : (Integer) apply(sign.text, value, other);
            }
        }
        return value;
    }

    private static int apply(String sign, int a, int b) {
        switch (sign) {
            case "|":
                return a | b;
            case "^":
                return a ^ b;
            case "&":
                return a & b;
            case "<<":
                return a << b;
            case ">>":
                return a >> b;
            case "+":
                return a + b;
            case "-":
                return a - b;
            case "*":
                return a * b;
            default:
                return a / b;
        }
    }

    private Integer unary(int when) {
        Token token = token(0);
        if (token.is("-") || token.is("~") || token.is("(")) {
            if (open == 40) {
                refuse();
            }
            open++;
            at++;
            Integer value = token.is("(") ? level(0, when) : unary(when);
            if (token.is("(")) {
                if (!token(0).is(")")) {
                    refuse();
                }
                at++;
            }
            open--;
            if (value == null || token.is("(")) {
                return value;
            }
            return token.is("-") ? -value : ~value;
        }
        Integer value = token.value;
        if (token.is("@")) {
            value = address;
        } else if (token.kind.equals("name") && !reserved(token.text)) {
            value = labels.get(token.text);
            if (value == null && pass == when) {
                fault(token.place, 4);
            }
        } else if (!token.kind.equals("number")) {
            refuse();
        }
        at++;
        return value;
    }
}
