import java.lang.reflect.Method;
import java.util.ArrayList;
import java.util.Arrays;
import java.util.List;
import java.util.Random;
import java.util.TreeMap;

/** Runs of drawn calls on the class and on the model; each answer, and the digest, must be the same. */
public final class ModelTest {
    private static final int RUNS = 1500;
    private static final int CALLS = 500;
    private static final int BITS = 63;

    /** A call, how often it is drawn, and the least and most of each number. */
    private enum Call {
        SAFE("safe", 1, 0, 96, 1, 4),
        HOLDER("holder", 8, 0, 5, 0, 96),
        WAY("way", 6, 1, 3, 0, 96),
        TYPE("type", 3, 0, 127),
        CLEAR("clear", 2),
        READ("read", 2),
        DAY("day", 25, 0, BITS),
        CHANGE("change", 8, 0, 999999),
        UNDO("undo", 12),
        OF("of", 5, 0, 5, 0, 2),
        TELLS("tells", 10, 0, 5, 0, 999, 1, 6),
        FINDS("finds", 4, 0, BITS),
        KNOWS("knows", 4, 0, BITS),
        COMES("comes", 10, 0, BITS, 0, 999),
        TELL("tell", 20, 0, 5, -1, 96),
        FORGET("forget", 2),
        AGREE("agree", 5),
        LIARS("liars", 8),
        GUESS("guess", 8),
        MIXED("mixed", 8, 0, 1, 0, BITS, 0, BITS),
        ODDS("odds", 5, 0, 10),
        BEST("best", 5, 0, 10, 0, 10),
        MUST("must", 8, 0, 999),
        CARS("cars", 5, 0, BITS, 0, 1),
        ENVELOPE("envelope", 6, 0, 990, 0, 1),
        DAYS("days", 6, 0, 999999, 0, 60, 0, 100),
        PART("part", 4, 0, 1),
        IMAGE("image", 5, 0, 1),
        FROM("from", 5, 0, 1),
        STATUS("status", 4, 0, 2),
        COUNT("count", 6, 0, 7),
        DIGEST("digest", 3);

        private final String name;
        private final int weight;
        private final int[] limits;

        Call(String name, int weight, int... limits) {
            this.name = name;
            this.weight = weight;
            this.limits = limits;
        }
    }

    private static final int[] STRANGE = {Integer.MIN_VALUE, Integer.MAX_VALUE, -2, -1, 64, 97, 1000, 1 << 30, -97};

    private final Random random;
    private final SafeShares real = new SafeShares();
    private final Model model = new Model();
    private final List<String> calls = new ArrayList<>();
    private static final TreeMap<String, Integer> SEEN = new TreeMap<>();

    private ModelTest(long seed) {
        random = new Random(seed);
    }

    private int drawNumber(int low, int high) {
        int how = random.nextInt(40);
        if (how == 0) {
            return STRANGE[random.nextInt(STRANGE.length)];
        }
        if (how == 1) {
            return random.nextBoolean() ? low - 1 : high + 1;
        }
        if (how < 6) {
            return random.nextBoolean() ? low : high;
        }
        if (high == BITS) {
            return random.nextInt(1 << model.holderCount());
        }
        if (high == 999 && how < 20) {
            return random.nextInt(12);
        }
        return low + random.nextInt(high - low + 1);
    }

    private Call drawCall() {
        int all = Arrays.stream(Call.values()).mapToInt(c -> c.weight).sum();
        int at = random.nextInt(all);
        for (Call call : Call.values()) {
            at -= call.weight;
            if (at < 0) {
                return call;
            }
        }
        return Call.DIGEST;
    }

    private int[] drawNumbers(Call call) {
        int[] numbers = new int[call.limits.length / 2];
        for (int k = 0; k < numbers.length; k++) {
            numbers[k] = drawNumber(call.limits[2 * k], call.limits[2 * k + 1]);
        }
        if (call == Call.MIXED && random.nextInt(10) > 0) {
            numbers[2] &= ~numbers[1];
        }
        if (call == Call.TELL && numbers[0] >= 0 && numbers[0] < 6 && random.nextInt(3) > 0) {
            numbers[1] = model.trueAt(numbers[0]);
        }
        return numbers;
    }

    private static long answer(Object of, String name, int[] numbers) throws ReflectiveOperationException {
        Class<?>[] types = new Class<?>[numbers.length];
        Arrays.fill(types, int.class);
        Method method = of.getClass().getDeclaredMethod(name, types);
        return ((Number) method.invoke(of, Arrays.stream(numbers).boxed().toArray())).longValue();
    }

    private boolean same(Call call, int... numbers) throws ReflectiveOperationException {
        String told = call.name + Arrays.toString(numbers);
        calls.add(told);
        long want = answer(model, call.name, numbers);
        long got = answer(real, call.name, numbers);
        SEEN.merge(call.name + " " + (want < 0 && call != Call.DIGEST ? "refused or none" : "answered"), 1, Integer::sum);
        long wantDigest = model.digest();
        long gotDigest = real.digest();
        if (got == want && gotDigest == wantDigest) {
            return true;
        }
        System.out.println("call " + calls.size() + " " + told + " answered " + got + ", the model " + want
                + "; digest " + gotDigest + ", the model's " + wantDigest);
        calls.forEach(c -> System.out.println("  " + c));
        return false;
    }

    private String drawText() {
        StringBuilder b = new StringBuilder();
        b.append("safe ").append(random.nextInt(97)).append(' ').append(1 + random.nextInt(4)).append(';');
        int items = random.nextInt(8);
        for (int i = 0; i < items; i++) {
            boolean way = random.nextInt(3) == 0;
            b.append(way ? "way " : "holder ").append(way ? 1 + random.nextInt(3) : random.nextInt(6)).append(' ');
            b.append(random.nextInt(97)).append(random.nextInt(4) == 0 ? " ; " : ";");
        }
        for (int mutations = random.nextInt(3); mutations > 0; mutations--) {
            int at = random.nextInt(b.length());
            String signs = "safewyholdr0123456789;; ;A-\u0000\u007f";
            char sign = signs.charAt(random.nextInt(signs.length()));
            switch (random.nextInt(4)) {
                case 0:
                    b.setCharAt(at, sign);
                    break;
                case 1:
                    b.insert(at, sign);
                    break;
                case 2:
                    b.deleteCharAt(at);
                    break;
                default:
                    b.setLength(at + 1);
            }
        }
        return b.toString();
    }

    private boolean sameText() throws ReflectiveOperationException {
        boolean same = same(Call.CLEAR);
        String drawn = drawText();
        for (int i = 0; i < drawn.length() && same; i++) {
            same = same(Call.TYPE, drawn.charAt(i));
        }
        return same && same(Call.READ);
    }

    private boolean run() throws ReflectiveOperationException {
        while (calls.size() < CALLS) {
            boolean same;
            if (random.nextInt(150) == 0) {
                same = sameText();
            } else {
                Call call = drawCall();
                same = same(call, drawNumbers(call));
            }
            if (!same) {
                return false;
            }
        }
        for (int what = 0; what < 3; what++) {
            if (!same(Call.STATUS, what)) {
                return false;
            }
        }
        return true;
    }

    /** With a number: so many runs; with a second argument: how often each call was answered, too. */
    public static void main(String[] args) throws ReflectiveOperationException {
        int runs = args.length > 0 ? Integer.parseInt(args[0]) : RUNS;
        for (int seed = 0; seed < runs; seed++) {
            if (!new ModelTest(seed).run()) {
                System.out.println("the run of seed " + seed + " is not as the model's");
                System.exit(1);
            }
        }
        for (Call call : Call.values()) {
            if (!SEEN.containsKey(call.name + " answered")) {
                System.out.println(call.name + " was never answered");
                System.exit(1);
            }
        }
        if (args.length > 1) {
            SEEN.forEach((k, v) -> System.out.println(k + ": " + v));
        }
        System.out.println(runs + " runs are as the model's");
    }
}
