import java.lang.reflect.Method;
import java.util.ArrayList;
import java.util.Arrays;
import java.util.List;
import java.util.Locale;

/** The class and the model side by side: each call is made on both, and answers and digests must be the same. */
final class Twins {
    private final SafeShares real = new SafeShares();
    private final Model model = new Model();
    private final List<String> calls = new ArrayList<>();
    private boolean same = true;
    private long answered = 0;

    private static long answer(Object of, String name, int[] numbers) {
        Class<?>[] types = new Class<?>[numbers.length];
        Arrays.fill(types, int.class);
        try {
            Method method = of.getClass().getDeclaredMethod(name, types);
            return ((Number) method.invoke(of, Arrays.stream(numbers).boxed().toArray())).longValue();
        } catch (ReflectiveOperationException e) {
            throw new IllegalStateException(name + Arrays.toString(numbers), e);
        }
    }

    boolean same(Call call, int... numbers) {
        String told = call.face + Arrays.toString(numbers);
        calls.add(told);
        answered = answer(model, call.face, numbers);
        long got = answer(real, call.face, numbers);
        long wantDigest = model.digest();
        long gotDigest = real.digest();
        if (got != answered || gotDigest != wantDigest) {
            same = false;
            System.out.println("call " + calls.size() + " " + told + " answered " + got + ", the model " + answered
                    + "; digest " + gotDigest + ", the model's " + wantDigest);
            calls.forEach(c -> System.out.println("  " + c));
        }
        return same;
    }

    /** Calls told as words and numbers, with commas between. */
    void makeAll(String told) {
        for (String one : told.isEmpty() ? new String[0] : told.split(", ")) {
            String[] words = one.split(" ");
            int[] numbers = new int[words.length - 1];
            for (int k = 0; k < numbers.length; k++) {
                numbers[k] = Integer.parseInt(words[k + 1]);
            }
            same(Call.valueOf(words[0].toUpperCase(Locale.ROOT)), numbers);
        }
    }

    void typeAll(String text) {
        for (int i = 0; i < text.length() && same; i++) {
            same(Call.TYPE, text.charAt(i));
        }
    }

    /** What no digest shows: what was refused, all that may be undone, the images, the bytes of the text. */
    boolean sameWithin() {
        for (int reason = 0; reason < 3; reason++) {
            same(Call.STATUS, reason);
        }
        sameUndone();
        same(Call.READ);
        for (int i = 0; i < 2; i++) {
            same(Call.FROM, i);
            sameUndone();
        }
        return same;
    }

    private void sameUndone() {
        for (int i = 0; i < 9; i++) {
            same(Call.UNDO);
        }
    }

    boolean isSame() {
        return same;
    }

    long lastAnswer() {
        return answered;
    }

    int callsMade() {
        return calls.size();
    }

    Model model() {
        return model;
    }
}
