/** Boundary cases of what holders tell by their kinds, and of what is found from which shares. */
public final class ShareEdgesTest extends Checks {
    private static final int LEAST = Integer.MIN_VALUE, MOST = Integer.MAX_VALUE;

    private ShareEdgesTest() {
    }

    /** One holder of this kind, whose share is 50. */
    private static SafeShares one(int kind, int n) {
        return with(made(50, 1), kind, n);
    }

    private static void onDays(SafeShares x, int[] days, int want) {
        for (int day : days) {
            asks(x, "tells(0, " + day + ", 1)", s -> s.tells(0, day, 1), want);
        }
    }

    private static void trueOne() {
        for (int n : new int[] {0, 96}) {
            SafeShares x = one(0, n);
            due("on the first day", x.tells(0, 0, 1), 50);
            due("on the last day", x.tells(0, 999, 6), 50);
        }
    }

    private static void forgets() {
        onDays(one(1, 0), new int[] {0, 2, 4, 996, 998}, -1);
        onDays(one(1, 0), new int[] {1, 3, 997, 999}, 50);
        onDays(one(1, 1), new int[] {0, 3, 6, 999}, -1);
        onDays(one(1, 1), new int[] {1, 2, 4, 998}, 50);
        onDays(one(1, 4), new int[] {0, 6, 12, 996}, -1);
        onDays(one(1, 4), new int[] {1, 2, 3, 4, 5, 7, 999}, 50);
        onDays(one(1, 5), new int[] {0, 2, 998}, -1);
        onDays(one(1, 5), new int[] {1, 5, 7, 999}, 50);
        onDays(one(1, 96), new int[] {0, 3, 999}, -1);
        onDays(one(1, 96), new int[] {1, 2, 98, 998}, 50);
    }

    private static void wrongByN() {
        onDays(one(2, 0), new int[] {0, 999}, 50);
        onDays(one(2, 1), new int[] {0, 999}, 51);
        onDays(one(2, 46), new int[] {0, 999}, 96);
        onDays(one(2, 47), new int[] {0, 999}, 0);
        onDays(one(2, 96), new int[] {0, 999}, 49);
    }

    private static void afraid() {
        SafeShares x = one(3, 47);
        int[] words = {0, 0, 50, 50, 50, 50};
        for (int m = 1; m <= 6; m++) {
            int come = m;
            asks(x, "tells(0, 7, " + m + ")", s -> s.tells(0, 7, come), words[m - 1]);
        }
    }

    private static void afraidByWhoComes() {
        SafeShares x = with(made(50, 1), 3, 1, 1, 0, 4, 0);
        due("comes(1, 0): alone", x.comes(1, 0), 2);
        due("comes(3, 0): two come, one of them tells", x.comes(3, 0), 2);
        due("comes(7, 0): three come, one of them tells", x.comes(7, 0), 1);
    }

    private static void late() {
        onDays(one(4, 0), new int[] {0, 1, 2, 3, 998, 999}, -1);
        onDays(one(4, 1), new int[] {0, 6, 996}, -1);
        onDays(one(4, 1), new int[] {1, 3, 5, 997, 999}, -1);
        onDays(one(4, 1), new int[] {2, 4, 8, 998}, 50);
        onDays(one(4, 4), new int[] {2, 4, 8, 10, 998}, 50);
        onDays(one(4, 4), new int[] {0, 6, 7, 996}, -1);
    }

    private static void sold() {
        SafeShares x = one(5, 40);
        int[][] dayAndWord = {{0, 90}, {6, 96}, {7, 0}, {97, 90}, {104, 0}, {999, 22}};
        for (int[] d : dayAndWord) {
            asks(x, "tells(0, " + d[0] + ", 1)", s -> s.tells(0, d[0], 1), d[1]);
        }
        due("sold by 0 on day 0", one(5, 0).tells(0, 0, 6), 50);
        due("sold by 96 on day 1", one(5, 96).tells(0, 1, 1), 50);
    }

    private static void ofADay() {
        SafeShares x = one(0, 0);
        asks(x, "tells(0, 0, 1)", s -> s.tells(0, 0, 1), 50);
        asks(x, "tells(0, 999, 1)", s -> s.tells(0, 999, 1), 50);
        bad(x, "tells(0, -1, 1)", s -> s.tells(0, -1, 1));
        bad(x, "tells(0, 1000, 1)", s -> s.tells(0, 1000, 1));
        bad(x, "tells(0, least, 1)", s -> s.tells(0, LEAST, 1));
        bad(x, "tells(0, most, 1)", s -> s.tells(0, MOST, 1));
    }

    private static void ifSoManyCome() {
        SafeShares x = one(0, 0);
        asks(x, "tells(0, 0, 6): more than there are", s -> s.tells(0, 0, 6), 50);
        bad(x, "tells(0, 0, 0)", s -> s.tells(0, 0, 0));
        bad(x, "tells(0, 0, 7)", s -> s.tells(0, 0, 7));
        bad(x, "tells(0, 0, -1)", s -> s.tells(0, 0, -1));
        bad(x, "tells(0, 0, least)", s -> s.tells(0, 0, LEAST));
        bad(x, "tells(0, 0, most)", s -> s.tells(0, 0, MOST));
    }

    private static void whoTells() {
        SafeShares x = trueOnes(5);
        asks(x, "tells(4, 0, 1)", s -> s.tells(4, 0, 1), 30);
        bad(x, "tells(5, 0, 1)", s -> s.tells(5, 0, 1));
        bad(x, "tells(-1, 0, 1)", s -> s.tells(-1, 0, 1));
        bad(x, "tells(least, 0, 1)", s -> s.tells(LEAST, 0, 1));
        bad(x, "tells(most, 0, 1)", s -> s.tells(MOST, 0, 1));
        with(x, 1, 0);
        asks(x, "tells(5, 0, 1)", s -> s.tells(5, 0, 1), -1);
        bad(x, "tells(6, 0, 1)", s -> s.tells(6, 0, 1));
        bad(new SafeShares(), "tells(0, 0, 1) of nobody", s -> s.tells(0, 0, 1));
    }

    private static void firstEnough() {
        SafeShares x = with(made(42, 2, 17), 0, 0, 0, 0, 2, 1, 0, 0);
        due("comes(15, 0): 0 and 1", x.comes(15, 0), 1);
        due("comes(11, 0): 0 and 1", x.comes(11, 0), 1);
        due("comes(13, 0): 0 and 2", x.comes(13, 0), 2);
        due("comes(14, 0): 1 and 2", x.comes(14, 0), 2);
        due("comes(9, 0): 0 and 3", x.comes(9, 0), 1);
        due("comes(12, 0): 2 and 3", x.comes(12, 0), 2);
        due("comes(8, 0): 3 alone", x.comes(8, 0), 0);
    }

    private static void foundOfAll() {
        for (int enough = 1; enough <= 4; enough++) {
            SafeShares x = with(made(96, enough, 95, 94, 93), 0, 0, 1, 0, 2, 9, 3, 9, 4, 9, 5, 9);
            for (int who = 0; who < 64; who++) {
                int many = Integer.bitCount(who);
                due("finds(" + who + ") by ENOUGH " + enough, x.finds(who), many < enough ? -1 : 96);
                due("knows(" + who + ") by ENOUGH " + enough, x.knows(who), many < enough ? 97 : 1);
            }
        }
    }

    private static void found() {
        SafeShares x = with(made(7, 3, 5, 6), 2, 9, 2, 9, 2, 9, 0, 0);
        asks(x, "finds(0)", s -> s.finds(0), -1);
        asks(x, "finds(3): one too few", s -> s.finds(3), -1);
        asks(x, "finds(7): enough, by true shares", s -> s.finds(7), 7);
        asks(x, "finds(15)", s -> s.finds(15), 7);
        bad(x, "finds(16)", s -> s.finds(16));
        bad(x, "finds(-1)", s -> s.finds(-1));
        bad(x, "finds(least)", s -> s.finds(LEAST));
        bad(x, "finds(most)", s -> s.finds(MOST));
        bad(trueOnes(6), "finds(64)", s -> s.finds(64));
        bad(new SafeShares(), "finds(1) of nobody", s -> s.finds(1));
        asks(new SafeShares(), "finds(0) of nobody", s -> s.finds(0), -1);
    }

    private static void known() {
        SafeShares x = with(made(7, 3, 5, 6), 2, 9, 2, 9, 2, 9, 0, 0);
        asks(x, "knows(0)", s -> s.knows(0), 97);
        asks(x, "knows(12): one too few", s -> s.knows(12), 97);
        asks(x, "knows(14): enough", s -> s.knows(14), 1);
        asks(x, "knows(15)", s -> s.knows(15), 1);
        bad(x, "knows(16)", s -> s.knows(16));
        bad(x, "knows(-1)", s -> s.knows(-1));
        bad(x, "knows(least)", s -> s.knows(LEAST));
        bad(x, "knows(most)", s -> s.knows(MOST));
        bad(trueOnes(6), "knows(64)", s -> s.knows(64));
        asks(new SafeShares(), "knows(0) of nobody", s -> s.knows(0), 97);
    }

    private static void notShut() {
        SafeShares x = with(alwaysWrong(), 0, 0, 1, 0);
        pass(x, 3, 1);
        due("count(4)", x.count(4), 1);
        asks(x, "comes(1, 3) while shut", s -> s.comes(1, 3), 2);
        asks(x, "comes(2, 3) while shut", s -> s.comes(2, 3), 1);
        asks(x, "comes(4, 2): that day, not this one", s -> s.comes(4, 2), 0);
        asks(x, "comes(4, 1): that day, not this one", s -> s.comes(4, 1), 1);
        due("day(2): it is shut still", x.day(2), 3);
        pass(x, 2, 1);
        asks(x, "comes(1, 999) of a third try", s -> s.comes(1, 999), 2);
        asks(x, "comes(2, 999)", s -> s.comes(2, 999), 1);
        due("count(3): no try was made", x.count(3), 2);
    }

    private static void comesRefused() {
        SafeShares x = trueOnes(2);
        asks(x, "comes(0, 0)", s -> s.comes(0, 0), 0);
        asks(x, "comes(3, 0)", s -> s.comes(3, 0), 1);
        asks(x, "comes(3, 999)", s -> s.comes(3, 999), 1);
        refused(x, BAD, -10, "comes(4, 0)", s -> s.comes(4, 0));
        refused(x, BAD, -10, "comes(-1, 0)", s -> s.comes(-1, 0));
        refused(x, BAD, -10, "comes(least, 0)", s -> s.comes(LEAST, 0));
        refused(x, BAD, -10, "comes(most, 0)", s -> s.comes(MOST, 0));
        refused(x, BAD, -10, "comes(0, -1)", s -> s.comes(0, -1));
        refused(x, BAD, -10, "comes(0, 1000)", s -> s.comes(0, 1000));
        refused(x, BAD, -10, "comes(0, least)", s -> s.comes(0, LEAST));
        refused(x, BAD, -10, "comes(0, most)", s -> s.comes(0, MOST));
        refused(x, BAD, -10, "comes(4, 1000)", s -> s.comes(4, 1000));
        refused(trueOnes(6), BAD, -10, "comes(64, 0)", s -> s.comes(64, 0));
        asks(new SafeShares(), "comes(0, 5) of nobody", s -> s.comes(0, 5), 0);
    }

    private static void nothingChanged() {
        SafeShares x = with(alwaysWrong(), 0, 0);
        x.tell(0, 1);
        pass(x, 2, 1);
        x.tells(1, 999, 6);
        x.finds(3);
        x.knows(3);
        x.comes(1, 2);
        x.comes(2, 2);
        x.comes(0, 2);
        due("count(2)", x.count(2), 2);
        due("count(3)", x.count(3), 2);
        due("count(6)", x.count(6), 2);
        due("tell(0, 1)", x.tell(0, 1), 1);
        due("undo()", x.undo(), 1);
        due("undo()", x.undo(), 0);
    }

    public static void main(String[] args) {
        sentence("0 TRUE: s.", ShareEdgesTest::trueOne);
        sentence("1 FORGETS (under TRUE): nothing on DAYS that leave 0 by what n by 5 leaves over and 2, else as TRUE.",
                ShareEdgesTest::forgets);
        sentence("2 WRONG (under TRUE): as TRUE and n.", ShareEdgesTest::wrongByN);
        sentence("3 AFRAID (under WRONG): as WRONG, if fewer than 3 come, else s.", ShareEdgesTest::afraid);
        sentence("if fewer than 3 come, else s.", ShareEdgesTest::afraidByWhoComes);
        sentence("4 LATE (under FORGETS): as FORGETS, but nothing on DAYS of an odd number.", ShareEdgesTest::late);
        sentence("5 SOLD (under WRONG): as WRONG and the DAY.", ShareEdgesTest::sold);
        sentence("what a HOLDER tells of a SHARE s on a DAY (0 .. 999)", ShareEdgesTest::ofADay);
        sentence("TELLS of a HOLDER on a DAY, if m (1 .. 6) come: nothing: -1.", ShareEdgesTest::ifSoManyCome);
        sentence("TELLS. NONE. BAD.", ShareEdgesTest::whoTells);
        sentence("by the first ENOUGH of them (by numbers) the one row of as many numbers that goes through all",
                ShareEdgesTest::firstEnough);
        sentence("Fewer than ENOUGH: nothing.", ShareEdgesTest::foundOfAll);
        sentence("FINDS by HOLDERS (bits) by their true SHARES: what is FOUND; none: too few.", ShareEdgesTest::found);
        sentence("how many NUMBERS it can be, to those who have these SHARES (97: too few, 1).", ShareEdgesTest::known);
        sentence("0, 1, 2, as it would be, were it that DAY and not SHUT.", ShareEdgesTest::notShut);
        sentence("COMES: 0, 1, 2. BAD: -10.", ShareEdgesTest::comesRefused);
        sentence("(Nothing is changed by these.)", ShareEdgesTest::nothingChanged);
        end();
    }
}
