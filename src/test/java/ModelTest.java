import java.util.Arrays;
import java.util.Random;
import java.util.TreeMap;

/** Runs of drawn calls on the class and on the model; each answer, and the digest, must be the same. */
public final class ModelTest {
    private static final int RUNS = 1500;
    private static final int CALLS = 450;
    private static final int[] STRANGE = {Integer.MIN_VALUE, Integer.MAX_VALUE, -2, -1, 64, 97, 1000, 1 << 30, -97};
    private static final TreeMap<String, Integer> SEEN = new TreeMap<>();

    private final Random random;
    private final Twins twins = new Twins();

    private ModelTest(long seed) {
        random = new Random(seed);
    }

    private int drawNumber(int low, int high) {
        int how = random.nextInt(40);
        if (how == 0) {
            return STRANGE[random.nextInt(STRANGE.length)];
        }
        if (how == 1) {
            return random.nextBoolean() ? low - 1 : high + 1;
        }
        if (how < 6) {
            return random.nextBoolean() ? low : high;
        }
        if (high == Call.BITS) {
            return random.nextInt(1 << twins.model().holderCount());
        }
        if (high == 999 && how < 20) {
            return random.nextInt(12);
        }
        return low + random.nextInt(high - low + 1);
    }

    private Call drawCall() {
        int all = Arrays.stream(Call.values()).mapToInt(c -> c.weight).sum();
        int at = random.nextInt(all);
        for (Call call : Call.values()) {
            at -= call.weight;
            if (at < 0) {
                return call;
            }
        }
        return Call.DIGEST;
    }

    private int[] drawNumbers(Call call) {
        int[] numbers = new int[call.numbers()];
        for (int k = 0; k < numbers.length; k++) {
            numbers[k] = drawNumber(call.least(k), call.most(k));
        }
        if (call == Call.MIXED && random.nextInt(10) > 0) {
            numbers[2] &= ~numbers[1];
        }
        if (call == Call.TELL && numbers[0] >= 0 && numbers[0] < 6 && random.nextInt(3) > 0) {
            numbers[1] = twins.model().trueAt(numbers[0]);
        }
        return numbers;
    }

    private void make(Call call) {
        twins.same(call, drawNumbers(call));
        boolean refused = twins.lastAnswer() < 0 && call != Call.DIGEST;
        SEEN.merge(call.face + " " + (refused ? "refused or none" : "answered"), 1, Integer::sum);
    }

    private String drawText() {
        StringBuilder b = new StringBuilder();
        b.append("safe ").append(random.nextInt(97)).append(' ').append(1 + random.nextInt(4)).append(';');
        int items = random.nextInt(8);
        for (int i = 0; i < items; i++) {
            boolean way = random.nextInt(3) == 0;
            b.append(way ? "way " : "holder ").append(way ? 1 + random.nextInt(3) : random.nextInt(6)).append(' ');
            b.append(random.nextInt(97)).append(random.nextInt(4) == 0 ? " ; " : ";");
        }
        for (int mutations = random.nextInt(3); mutations > 0; mutations--) {
            mutate(b);
        }
        return b.toString();
    }

    private void mutate(StringBuilder b) {
        int at = random.nextInt(b.length());
        String signs = "safewyholdr0123456789;; ;A-\u0000\u007f";
        char sign = signs.charAt(random.nextInt(signs.length()));
        switch (random.nextInt(4)) {
            case 0:
                b.setCharAt(at, sign);
                break;
            case 1:
                b.insert(at, sign);
                break;
            case 2:
                b.setLength(at + 1);
                break;
            default:
                if (b.length() > 1) {
                    b.deleteCharAt(at);
                }
        }
    }

    private boolean run() {
        while (twins.callsMade() < CALLS && twins.isSame()) {
            if (random.nextInt(150) == 0) {
                twins.same(Call.CLEAR);
                twins.typeAll(drawText());
                make(Call.READ);
            } else {
                make(drawCall());
            }
        }
        return twins.isSame() && twins.sameWithin();
    }

    /** With a number: so many runs; with a second argument: how often each call was answered, too. */
    public static void main(String[] args) {
        int runs = args.length > 0 ? Integer.parseInt(args[0]) : RUNS;
        for (int seed = 0; seed < runs; seed++) {
            if (!new ModelTest(seed).run()) {
                System.out.println("the run of seed " + seed + " is not as the model's");
                System.exit(1);
            }
        }
        for (Call call : Call.values()) {
            if (!SEEN.containsKey(call.face + " answered")) {
                System.out.println(call.face + " was never answered");
                System.exit(1);
            }
        }
        if (args.length > 1) {
            SEEN.forEach((k, v) -> System.out.println(k + ": " + v));
        }
        System.out.println(runs + " runs are as the model's");
    }
}
