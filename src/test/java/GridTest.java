import java.util.ArrayList;
import java.util.List;
import java.util.TreeSet;

/** Every call with every mix of numbers at and beyond their limits, in states at their own limits, as the model. */
public final class GridTest {
    private static final int CALLS_OF_ONE_OBJECT = 150;
    private static final String ALL_KINDS = "holder 0 0, holder 1 4, holder 2 96, holder 3 1, holder 4 2, holder 5 50";
    private static final String SIX_TOLD = "tell 0 0, tell 1 96, tell 2 1, tell 3 50, tell 4 95, tell 5 2";
    private static final String EIGHT_TO_UNDO = "day 0, day 1, change 0, day 1, day 1, day 0, change 999999, day 1, day 0";

    private static final String[] STATES = {
        "",
        "safe 96 1, holder 2 1, day 1, day 1, image 0",
        "safe 96 1, holder 2 1, holder 0 0, day 1, day 1, day 1, image 1",
        "safe 42 2, way 1 17, holder 0 0, holder 0 0, image 0, change 7, image 1, tell 0 59, tell 1 76, tell 5 47",
        "safe 1 4, way 1 96, way 2 96, way 3 96, " + ALL_KINDS + ", " + SIX_TOLD + ", " + EIGHT_TO_UNDO,
        "safe 5 3, way 1 20, way 2 31, " + ALL_KINDS + ", image 0, day 63, day 63, image 1, day 63, odds 3",
        "safe 9 1, " + ALL_KINDS + ", way 1 5, " + EIGHT_TO_UNDO + ", image 0, " + SIX_TOLD + ", odds 10"
    };
    private static final String[] TEXTS = {"", "safe 96 4;way 3 96;holder 5 96;", " ".repeat(150)};

    private GridTest() {
    }

    private static List<Integer> edgesOf(int least, int most) {
        TreeSet<Integer> edges = new TreeSet<>(List.of(Integer.MIN_VALUE, Integer.MIN_VALUE + 1, least - 1, least,
                least + 1, (least + most) / 2, most - 1, most, most + 1, Integer.MAX_VALUE));
        if (most == Call.BITS) {
            for (int holders = 1; holders < 6; holders++) {
                edges.add((1 << holders) - 1);
                edges.add(1 << holders);
            }
        }
        return new ArrayList<>(edges);
    }

    private static List<int[]> mixesOf(Call call) {
        List<int[]> mixes = new ArrayList<>(List.of(new int[call.numbers()]));
        for (int k = 0; k < call.numbers(); k++) {
            List<int[]> longer = new ArrayList<>();
            for (int[] mix : mixes) {
                for (int edge : edgesOf(call.least(k), call.most(k))) {
                    int[] next = mix.clone();
                    next[k] = edge;
                    longer.add(next);
                }
            }
            mixes = longer;
        }
        return mixes;
    }

    private static Twins built(String state, String text) {
        Twins twins = new Twins();
        twins.makeAll(state);
        twins.typeAll(text);
        return twins;
    }

    private static int asTheModel(Call call, String state, String text) {
        Twins twins = built(state, text);
        int begun = twins.callsMade();
        int made = 0;
        for (int[] mix : mixesOf(call)) {
            if (twins.callsMade() - begun >= CALLS_OF_ONE_OBJECT) {
                stopUnlessSame(twins.sameWithin(), call, state);
                twins = built(state, text);
            }
            stopUnlessSame(twins.same(call, mix), call, state);
            made++;
        }
        stopUnlessSame(twins.sameWithin(), call, state);
        return made;
    }

    private static void stopUnlessSame(boolean same, Call call, String state) {
        if (!same) {
            System.out.println(call.face + " at its limits is not as the model's behind: " + state);
            System.exit(1);
        }
    }

    public static void main(String[] args) {
        int made = 0;
        for (String state : STATES) {
            for (Call call : Call.values()) {
                for (String text : call == Call.TYPE || call == Call.READ || call == Call.CLEAR ? TEXTS
                        : new String[] {TEXTS[1]}) {
                    made += asTheModel(call, state, text);
                }
            }
        }
        System.out.println(made + " calls at their limits are as the model's");
    }
}
