import java.util.Random;

/** Promise 18 (step): each instruction, in many states, as the model of these tests does it. */
public final class StepTest {
    private static final int STATES = 24;

    public static void main(String[] args) {
        Random random = new Random(20261119);
        for (int group = Tables.PLAIN; group <= Tables.IY_BITS; group++) {
            for (int octet = 0; octet < 256; octet++) {
                for (int i = 0; i < STATES; i++) {
                    oneStep(random, group, octet);
                }
            }
        }
        allAdjusts();
        allCalculations();
        allCounts();
        allConditions();
        programs(random);
        Check.end("StepTest");
    }

    private static int octet(Random random) {
        int[] edges = {0, 1, 127, 128, 255, 15, 16, 153, 154};
        return random.nextInt(3) == 0 ? edges[random.nextInt(edges.length)] : random.nextInt(256);
    }

    /** A state for both; PC, HL, DE, SP near the ends now and then, ports and latches too. */
    private static void prepare(Random random, OpcodeForge forge, Model model) {
        for (int r = 0; r <= 16; r++) {
            int v = octet(random) * 256 + octet(random);
            if (random.nextInt(6) == 0) {
                v = 65536 - 4 + random.nextInt(8) & 65535;
            }
            v = r < 12 ? v : octet(random) % (Model.SIZES[r] + 1);
            model.register[r] = v;
            forge.set(r, v);
        }
        for (int r : new int[] {1, 2, 3, 8, 9, 10}) {
            int at = model.register[r];
            for (int i = -1; i <= 1; i++) {
                put(forge, model, at + i, octet(random));
            }
        }
        int port = model.register[1] % 256;
        model.in[port] = octet(random);
        forge.port(port, model.in[port]);
    }

    private static void put(OpcodeForge forge, Model model, int address, int v) {
        model.write(address, v);
        forge.put(address & 65535, v);
    }

    private static void oneStep(Random random, int group, int octet) {
        OpcodeForge forge = new OpcodeForge();
        Model model = new Model();
        prepare(random, forge, model);
        int[] octets = Tables.octets(group, octet, octet(random), octet(random), octet(random));
        for (int i = 0; i < 4; i++) {
            put(forge, model, model.register[11] + i, octets[i]);
        }
        int d = octets[2] > 127 ? octets[2] - 256 : octets[2];
        for (int r = 8; r <= 9; r++) {
            int near = model.register[r] + d;
            if ((near - model.register[11] & 65535) > 3) {
                put(forge, model, near, octet(random));
            }
        }
        for (int p : new int[] {octets[1], octets[2]}) {
            model.in[p] = octet(random);
            forge.port(p, model.in[p]);
        }
        String what = group + "/" + octet + " " + Tables.of(group, octet);
        Check.same(what, forge.step(), model.step());
        compare(what, forge, model);
    }

    private static void compare(String what, OpcodeForge forge, Model model) {
        for (int r = 0; r <= 16; r++) {
            Check.same(what + ", register " + r, forge.register(r), model.register[r]);
        }
        for (int address : model.touched) {
            Check.same(what + ", octet " + address, forge.octet(address), model.memory[address]);
        }
        Check.same(what + ", outs", forge.outs(), model.outs);
        for (int i = 0; i < 3; i++) {
            int p = i == 0 ? forge.register(1) & 255 : forge.octet(forge.register(11) + 65533 + i & 65535);
            Check.same(what + ", out " + p, forge.out(p), model.out[p]);
        }
    }

    /** DAA of every A, with every H, N, C. */
    private static void allAdjusts() {
        for (int a = 0; a < 256; a++) {
            OpcodeForge forge = new OpcodeForge();
            for (int f = 0; f < 256; f += f % 4 == 3 ? 13 : 1) {
                Model model = new Model();
                model.register[0] = a * 256 + f;
                model.memory[0] = 39;
                forge.put(0, 39);
                forge.set(0, a * 256 + f);
                forge.set(11, 0);
                Check.same("DAA", forge.step(), model.step());
                Check.same("DAA " + a + " " + f, forge.register(0), model.register[0]);
            }
        }
    }

    /** Every A with many an operand, without and with C. */
    private static void allCalculations() {
        int[] others = {0, 1, 7, 8, 15, 16, 127, 128, 129, 170, 200, 254, 255};
        for (int y = 0; y < 8; y++) {
            for (int v : others) {
                for (int c = 0; c < 2; c++) {
                    afterOnes(new int[] {198 + 8 * y, v}, c);
                }
            }
            afterOnes(new int[] {203, 7 + 8 * y}, 0);
            afterOnes(new int[] {203, 7 + 8 * y}, 255);
            afterOnes(new int[] {7 + 8 * y}, 0);
            afterOnes(new int[] {7 + 8 * y}, 255);
            afterOnes(new int[] {203, 71 + 8 * y}, 255);
        }
        for (int f : new int[] {0, 255}) {
            afterOnes(new int[] {60}, f);
            afterOnes(new int[] {61}, f);
            afterOnes(new int[] {237, 68}, f);
            afterOnes(new int[] {237, 87}, f);
            afterOnes(new int[] {237, 95}, f);
            afterOnes(new int[] {237, 103}, f);
            afterOnes(new int[] {237, 111}, f);
        }
    }

    /** One instruction, done with each octet in A, in I and in R. */
    private static void afterOnes(int[] octets, int f) {
        OpcodeForge forge = new OpcodeForge();
        for (int a = 0; a < 256; a++) {
            if (a % 64 == 0) {
                forge = new OpcodeForge();
                Check.putAll(forge, 0, octets);
            }
            Model model = new Model();
            for (int i = 0; i < octets.length; i++) {
                model.memory[i] = octets[i];
            }
            int[] state = {0, a * 256 + f, 3, 0, 11, 0, 12, a, 13, a};
            for (int i = 0; i < state.length; i += 2) {
                model.register[state[i]] = state[i + 1];
                forge.set(state[i], state[i + 1]);
            }
            forge.put(0, octets[0]);
            forge.step();
            model.step();
            Check.same("AF of " + octets[0] + ", A " + a + ", F " + f, forge.register(0), model.register[0]);
        }
    }

    /** DJNZ and the blocks with every B, or every low half of BC. */
    private static void allCounts() {
        for (int octet : new int[] {16, 162, 163, 170, 171, 178, 179, 186, 187, 160, 161, 168, 169, 176, 177, 184, 185}) {
            for (int b = 0; b < 256; b++) {
                OpcodeForge forge = new OpcodeForge();
                Model model = new Model();
                int[] octets = octet == 16 ? new int[] {16, 50} : new int[] {237, octet};
                boolean lower = octet >= 160 && octet % 4 < 2;
                int[] state = {0, b * 256, 1, lower ? b : b * 256 + 9, 2, 900, 3, 400 + b, 11, 100};
                for (int i = 0; i < state.length; i += 2) {
                    model.register[state[i]] = state[i + 1];
                    forge.set(state[i], state[i + 1]);
                }
                put(forge, model, 100, octets[0]);
                put(forge, model, 101, octets[1]);
                put(forge, model, 400 + b, b ^ 85);
                model.in[9] = b ^ 85;
                forge.port(9, b ^ 85);
                Check.same("answer of " + octet, forge.step(), model.step());
                compare("count " + octet + " B " + b, forge, model);
            }
        }
    }

    /** Each condition of JR, JP, CALL, RET with every F. */
    private static void allConditions() {
        for (int octet = 0; octet < 256; octet++) {
            if (octet >= 192 && octet % 2 == 0 && octet % 8 < 6 || octet < 64 && octet % 8 == 0 && octet > 24) {
                for (int f = 0; f < 256; f++) {
                    OpcodeForge forge = new OpcodeForge();
                    Model model = new Model();
                    model.register[0] = f;
                    forge.set(0, f);
                    put(forge, model, 0, octet);
                    put(forge, model, 1, 77);
                    put(forge, model, 2, 44);
                    Check.same("answer of " + octet, forge.step(), model.step());
                    Check.same("PC, " + octet + " F " + f, forge.register(11), model.register[11]);
                    Check.same("SP, " + octet + " F " + f, forge.register(10), model.register[10]);
                }
            }
        }
    }

    /** Memory full of anything, REQUESTS now and then, many steps. */
    private static void programs(Random random) {
        for (int i = 0; i < 300; i++) {
            OpcodeForge forge = new OpcodeForge();
            Model model = new Model();
            for (int address = 0; address < 300; address++) {
                put(forge, model, address, random.nextInt(4) == 0 ? 251 : random.nextInt(256));
            }
            for (int step = 0; step < 40; step++) {
                if (random.nextInt(4) == 0) {
                    int v = random.nextInt(256);
                    boolean hard = random.nextInt(3) == 0;
                    boolean waits = hard ? model.hard : model.plain >= 0;
                    Check.same("request", forge.request(hard ? 1 : 0, v), waits ? 0 : 1);
                    model.hard |= hard;
                    model.plain = hard ? model.plain : v;
                }
                int answer = model.step();
                Check.same("step " + step + " of program " + i, forge.step(), answer);
                if (answer == 0 || model.register[11] > 290) {
                    model.register[11] = random.nextInt(290);
                    forge.set(11, model.register[11]);
                }
                if (answer == 3) {
                    model.hard = true;
                    forge.request(1, 0);
                }
            }
            compare("program " + i, forge, model);
        }
    }
}
