/** Boundary cases of days: lacking, opening, wrong and shut ones, the way changed, what is undone. */
public final class DayEdgesTest extends Checks {
    private static final int LEAST = Integer.MIN_VALUE, MOST = Integer.MAX_VALUE;

    private DayEdgesTest() {
    }

    private static void dayTriesShut(SafeShares x, String when, int day, int tries, int shut) {
        due("count(2) " + when, x.count(2), day);
        due("count(3) " + when, x.count(3), tries);
        due("count(4) " + when, x.count(4), shut);
    }

    private static void onlyTellersTell() {
        SafeShares x = with(made(42, 2, 17), 1, 0, 0, 0, 2, 1, 0, 0);
        due("day(3) on 0: one of two forgets", x.day(3), 0);
        due("day(3) on 1", x.day(3), 1);
        due("day(7) on 2: one forgets, the wrong one is of the first two", x.day(7), 2);
        due("day(7) on 3: the wrong one is none of the first two", x.day(7), 1);
        due("day(11) on 4: one forgets, two are left", x.day(11), 1);
    }

    private static void lacking() {
        SafeShares x = with(made(1, 4), 0, 0, 0, 0, 0, 0, 0, 0);
        due("day(0): nobody", x.day(0), 0);
        due("day(7): one too few", x.day(7), 0);
        due("day(15): enough", x.day(15), 1);
        SafeShares y = alwaysWrong();
        pass(y, 2, 1);
        due("day(0) behind two wrong ones", y.day(0), 0);
        dayTriesShut(y, "behind a lacking day", 3, 2, 0);
        SafeShares none = new SafeShares();
        due("day(0) of no holders", none.day(0), 0);
        dayTriesShut(none, "behind it", 1, 0, 0);
    }

    private static void opens() {
        SafeShares x = with(alwaysWrong(), 0, 0);
        pass(x, 2, 1);
        dayTriesShut(x, "ahead of it", 2, 2, 0);
        due("day(2)", x.day(2), 1);
        dayTriesShut(x, "behind it", 3, 0, 0);
        pass(x, 2, 1);
        dayTriesShut(x, "behind two wrong ones more", 5, 2, 0);
        due("day(2) again", x.day(2), 1);
        due("day(2) with no tries", x.day(2), 1);
        dayTriesShut(x, "behind it", 7, 0, 0);
    }

    private static void shutAtThree() {
        SafeShares x = alwaysWrong();
        for (int round = 0; round < 2; round++) {
            int day = 4 * round;
            due("day(1), the first", x.day(1), 2);
            dayTriesShut(x, "behind one", day + 1, 1, 0);
            due("day(1), the second", x.day(1), 2);
            dayTriesShut(x, "behind two", day + 2, 2, 0);
            due("day(1), the third", x.day(1), 2);
            dayTriesShut(x, "behind three", day + 3, 0, 1);
            due("day(1), the fourth", x.day(1), 3);
            dayTriesShut(x, "behind the shut day", day + 4, 0, 0);
        }
    }

    private static void nothingTried() {
        SafeShares x = with(alwaysWrong(), 0, 0);
        int[] come = {0, 1, 2, 3};
        for (int who : come) {
            pass(x, 3, 1);
            due("day(" + who + ") while shut", x.day(who), 3);
            dayTriesShut(x, "behind it", x.count(2), 0, 0);
            due("day(2) on the next one", x.day(2), 1);
        }
    }

    private static void oneMoreInEachCase() {
        SafeShares x = with(alwaysWrong(), 0, 0);
        int[][] whoAndAnswer = {{0, 0}, {2, 1}, {1, 2}, {1, 2}, {1, 2}, {2, 3}, {2, 1}};
        for (int d = 0; d < whoAndAnswer.length; d++) {
            due("day(" + whoAndAnswer[d][0] + ")", x.day(whoAndAnswer[d][0]), whoAndAnswer[d][1]);
            due("count(2)", x.count(2), d + 1);
        }
        x.change(1);
        due("count(2) behind a change", x.count(2), 7);
    }

    private static void dayRefused() {
        SafeShares x = trueOnes(2);
        refused(x, BAD, -10, "day(4)", s -> s.day(4));
        refused(x, BAD, -10, "day(-1)", s -> s.day(-1));
        refused(x, BAD, -10, "day(least)", s -> s.day(LEAST));
        refused(x, BAD, -10, "day(most)", s -> s.day(MOST));
        due("day(3)", x.day(3), 1);
        refused(new SafeShares(), BAD, -10, "day(1) of nobody", s -> s.day(1));
        SafeShares six = trueOnes(6);
        refused(six, BAD, -10, "day(64)", s -> s.day(64));
        due("day(63)", six.day(63), 1);
        SafeShares shut = alwaysWrong();
        pass(shut, 3, 1);
        refused(shut, BAD, -10, "day(2) while shut", s -> s.day(2));
        due("count(4) behind it", shut.count(4), 1);
    }

    private static void changeSeeds() {
        SafeShares x = made(0, 2);
        due("change(0)", x.change(0), 1);
        due("way(1, 0): 12345 by 65536 is 0", x.way(1, 0), 0);
        due("change(999999)", x.change(999999), 1);
        due("way(1, 0)", x.way(1, 0), 26728 % 97);
        bad(x, "change(-1)", s -> s.change(-1));
        bad(x, "change(1000000)", s -> s.change(1000000));
        bad(x, "change(least)", s -> s.change(LEAST));
        bad(x, "change(most)", s -> s.change(MOST));
        due("count(6) behind these", x.count(6), 2);
    }

    private static void changeSums() {
        SafeShares x = made(9, 4, 96, 96, 96);
        due("change(0)", x.change(0), 3);
        due("way(1, 0): 96 and 0", x.way(1, 0), 96);
        due("way(2, 0): 96 and 21468", x.way(2, 0), (96 + 21468) % 97);
        due("way(3, 0): 96 and 9988", x.way(3, 0), (96 + 9988) % 97);
        SafeShares y = made(9, 4);
        due("change(1)", y.change(1), 3);
        due("way(1, 0): 16838", y.way(1, 0), 57);
        due("way(2, 0): 5758", y.way(2, 0), 35);
        due("way(3, 0): 10113", y.way(3, 0), 25);
    }

    private static void changeOfTheWayAlone() {
        for (int enough = 1; enough <= 4; enough++) {
            SafeShares x = made(9, enough, 5, 5, 5);
            due("change(1) by ENOUGH " + enough, x.change(1), enough - 1);
            due("way(1, 0)", x.way(1, 0), enough > 1 ? 62 : 5);
            due("way(2, 0)", x.way(2, 0), enough > 2 ? 40 : 5);
            due("way(3, 0)", x.way(3, 0), enough > 3 ? 30 : 5);
            due("count(6)", x.count(6), 1);
        }
    }

    private static void changeWithoutOpening() {
        SafeShares x = trueOnes(3);
        x.image(0);
        x.day(1);
        x.change(1);
        dayTriesShut(x, "behind a change", 1, 0, 0);
        due("of(0, 2): 59 and 57", x.of(0, 2), 19);
        due("finds(5)", x.finds(5), 42);
        due("mixed(0, 1, 2): an old one is worthless", x.mixed(0, 1, 2), 2 * 59 - (76 + 2 * 57) % 97);
    }

    private static void undoBringsBack() {
        SafeShares x = with(alwaysWrong(), 0, 0);
        x.way(2, 4);
        pass(x, 3, 1);
        due("undo() of a third wrong one", x.undo(), 2);
        dayTriesShut(x, "behind it", 2, 2, 0);
        x.day(1);
        x.day(1);
        due("undo() of a shut day", x.undo(), 3);
        dayTriesShut(x, "behind it", 3, 0, 1);
        due("undo()", x.undo(), 2);
        due("day(2)", x.day(2), 1);
        due("undo() of an opening", x.undo(), 2);
        dayTriesShut(x, "behind it", 2, 2, 0);
        due("day(0)", x.day(0), 0);
        due("undo() of a lacking day", x.undo(), 2);
        x.way(1, 1);
        x.way(2, 2);
        x.way(3, 3);
        due("undo()", x.undo(), 1);
        due("way(1, 0) as ahead of that day", x.way(1, 0), 0);
        due("way(2, 0) as ahead of that day", x.way(2, 0), 4);
        due("way(3, 0) as ahead of that day", x.way(3, 0), 0);
    }

    private static void undoOfAChange() {
        SafeShares x = made(3, 4, 10, 20, 30);
        x.day(0);
        x.change(5);
        x.change(6);
        due("undo()", x.undo(), 1);
        due("undo()", x.undo(), 1);
        due("way(1, 0)", x.way(1, 0), 10);
        due("way(2, 0)", x.way(2, 0), 20);
        due("way(3, 0)", x.way(3, 0), 30);
        due("undo() of the day", x.undo(), 0);
        SafeShares one = made(3, 1);
        due("change(5) by ENOUGH 1", one.change(5), 0);
        due("undo()", one.undo(), 0);
        refused(one, NO, -3, "undo()", s -> s.undo());
    }

    private static void undoLeavesAllElse() {
        SafeShares x = trueOnes(2);
        x.day(3);
        x.tell(0, 4);
        x.odds(10);
        x.type(65);
        x.day(4);
        x.undo();
        due("digest()", x.digest(), digestOf(2, 2, 0, 0, 0, 1, 0, 1, 42, 17, 0, 0, 0, 0, 0, 0,
                4, -1, -1, -1, -1, -1, 1, 1));
        due("status(0)", x.status(BAD), 1);
    }

    private static void eightAtMost() {
        SafeShares x = new SafeShares();
        for (int done = 1; done <= 20; done++) {
            due("day(0)", x.day(0), 0);
            due("count(6) behind " + done, x.count(6), Math.min(done, 8));
        }
        for (int left = 7; left >= 0; left--) {
            due("undo()", x.undo(), 12 + left);
            due("count(6)", x.count(6), left);
        }
        refused(x, NO, -3, "undo() of a ninth", s -> s.undo());
        due("day(0)", x.day(0), 0);
        due("undo()", x.undo(), 12);
        refused(x, NO, -3, "undo()", s -> s.undo());
    }

    private static void eightOfBothAtMost() {
        SafeShares x = made(0, 2);
        x.change(1);
        for (int i = 0; i < 4; i++) {
            x.day(0);
            x.change(1);
        }
        due("count(6) of nine", x.count(6), 8);
        int[] days = {4, 3, 3, 2, 2, 1, 1, 0};
        for (int day : days) {
            due("undo()", x.undo(), day);
        }
        due("way(1, 0) behind the first change", x.way(1, 0), 57);
        refused(x, NO, -3, "undo()", s -> s.undo());
    }

    private static void noneBehindAHolder() {
        SafeShares x = trueOnes(1);
        x.day(1);
        x.change(1);
        x.way(1, 1);
        x.tell(0, 1);
        due("count(6) behind a way and a tell", x.count(6), 2);
        bad(x, "holder(6, 0)", s -> s.holder(6, 0));
        due("holder(0, 0)", x.holder(0, 0), 1);
        due("count(6)", x.count(6), 0);
        refused(x, NO, -3, "undo()", s -> s.undo());
        due("count(2) stays", x.count(2), 1);
        due("day(3)", x.day(3), 1);
        due("undo() of a day behind it", x.undo(), 1);
        refused(x, NO, -3, "undo()", s -> s.undo());
    }

    private static void ofAHolder() {
        SafeShares x = trueOnes(5);
        bad(x, "of(5, 0) ahead of the sixth", s -> s.of(5, 0));
        with(x, 5, 96);
        due("of(5, 0)", x.of(5, 0), 5);
        due("of(5, 1)", x.of(5, 1), 96);
        asks(x, "of(5, 2): the true one", s -> s.of(5, 2), 47);
        bad(x, "of(6, 0)", s -> s.of(6, 0));
        bad(x, "of(-1, 0)", s -> s.of(-1, 0));
        bad(x, "of(0, -1)", s -> s.of(0, -1));
        bad(x, "of(0, 3)", s -> s.of(0, 3));
        bad(x, "of(least, 0)", s -> s.of(LEAST, 0));
        bad(x, "of(most, 0)", s -> s.of(MOST, 0));
        bad(x, "of(0, least)", s -> s.of(0, LEAST));
        bad(x, "of(0, most)", s -> s.of(0, MOST));
        bad(new SafeShares(), "of(0, 0) of nobody", s -> s.of(0, 0));
    }

    public static void main(String[] args) {
        sentence("HOLDERS (bits) come; those who tell something tell: FOUND of that", DayEdgesTest::onlyTellersTell);
        sentence("if fewer than ENOUGH tell, it is LACKING (0)", DayEdgesTest::lacking);
        sentence("if it is THE NUMBER, it OPENS (1), TRIES are 0 then", DayEdgesTest::opens);
        sentence("else WRONG (2): TRIES are one more; at 3 it is SHUT on the next DAY, TRIES are 0.",
                DayEdgesTest::shutAtThree);
        sentence("While it is SHUT nothing is tried: 3.", DayEdgesTest::nothingTried);
        sentence("The DAY is one more in each case.", DayEdgesTest::oneMoreInEachCase);
        sentence("A DAY on which HOLDERS (bits) come: 0 .. 3. BAD: -10.", DayEdgesTest::dayRefused);
        sentence("CHANGE by a SEED (0 .. 999999)", DayEdgesTest::changeSeeds);
        sentence("X becomes X times 1103515245 and 12345, by 2147483648 what is left over; X by 65536 (cut), by 97"
                + " left over, comes.", DayEdgesTest::changeSums);
        sentence("CHANGE: how many c were changed. BAD.", DayEdgesTest::changeOfTheWayAlone);
        sentence("shares changed without opening, old ones worthless", DayEdgesTest::changeWithoutOpening);
        sentence("UNDO: the DAY, TRIES, whether SHUT, the WAY as ahead of the last DAY", DayEdgesTest::undoBringsBack);
        sentence("as ahead of the last DAY, CHANGE", DayEdgesTest::undoOfAChange);
        sentence("UNDO: the DAY then. NO: none may be.", DayEdgesTest::undoLeavesAllElse);
        sentence("(8 at most;", DayEdgesTest::eightAtMost);
        sentence("the last DAY, CHANGE (8 at most", DayEdgesTest::eightOfBothAtMost);
        sentence("behind a HOLDER that comes none may be)", DayEdgesTest::noneBehindAHolder);
        sentence("Of a HOLDER: KIND (0), n (1), the SHARE (2). BAD.", DayEdgesTest::ofAHolder);
        end();
    }
}
