/** Boundary cases of how many should be enough, who must come, cars, the envelope and days by a seed. */
public final class ManyEdgesTest extends Checks {
    private static final int LEAST = Integer.MIN_VALUE, MOST = Integer.MAX_VALUE;

    private ManyEdgesTest() {
    }

    private static void fraction(SafeShares x, int o, long above, long below) {
        due("odds(" + o + ")", x.odds(o), 1);
        asks(x, "part(0) behind odds(" + o + ")", s -> s.part(0), above);
        asks(x, "part(1) behind odds(" + o + ")", s -> s.part(1), below);
    }

    private static void tenths() {
        SafeShares x = trueOnes(3);
        fraction(x, 0, 0, 1);
        fraction(x, 10, 1, 1);
        fraction(x, 1, 7, 250);
        fraction(x, 9, 243, 250);
        fraction(x, 5, 1, 2);
        bad(x, "odds(-1)", s -> s.odds(-1));
        bad(x, "odds(11)", s -> s.odds(11));
        bad(x, "odds(least)", s -> s.odds(LEAST));
        bad(x, "odds(most)", s -> s.odds(MOST));
        due("part(1) behind these", x.part(1), 2);
    }

    private static void enoughOrMore() {
        SafeShares nobody = made(0, 1);
        fraction(nobody, 10, 0, 1);
        fraction(nobody, 5, 0, 1);
        SafeShares fewer = with(made(0, 4), new int[6]);
        fraction(fewer, 10, 0, 1);
        SafeShares just = with(made(0, 4), new int[8]);
        fraction(just, 10, 1, 1);
        fraction(just, 5, 1, 16);
        fraction(just, 9, 6561, 10000);
        SafeShares more = with(made(0, 1), new int[12]);
        fraction(more, 5, 63, 64);
        fraction(more, 1, 468559, 1000000);
        fraction(more, 9, 999999, 1000000);
        fraction(with(made(0, 4), new int[12]), 5, 11, 32);
        fraction(with(made(0, 1), 1, 0), 3, 3, 10);
    }

    private static void lowestTerms() {
        SafeShares x = new SafeShares();
        due("part(0) at first", x.part(0), 0);
        due("part(1) at first", x.part(1), 1);
        SafeShares two = with(made(0, 1), new int[4]);
        fraction(two, 2, 9, 25);
        fraction(two, 4, 16, 25);
        fraction(two, 5, 3, 4);
        fraction(two, 0, 0, 1);
        fraction(two, 10, 1, 1);
    }

    private static void bestRefused() {
        SafeShares x = trueOnes(4);
        asks(x, "best(0, 0)", s -> s.best(0, 0), 4);
        asks(x, "best(10, 10)", s -> s.best(10, 10), 4);
        asks(x, "best(0, 10): no one more than another", s -> s.best(0, 10), 4);
        bad(x, "best(-1, 0)", s -> s.best(-1, 0));
        bad(x, "best(11, 0)", s -> s.best(11, 0));
        bad(x, "best(0, -1)", s -> s.best(0, -1));
        bad(x, "best(0, 11)", s -> s.best(0, 11));
        bad(x, "best(least, 0)", s -> s.best(LEAST, 0));
        bad(x, "best(most, 0)", s -> s.best(MOST, 0));
        bad(x, "best(0, least)", s -> s.best(0, LEAST));
        bad(x, "best(0, most)", s -> s.best(0, MOST));
    }

    private static void bestOfLikeOnes() {
        int[] alwaysCome = {4, 1, 2, 3, 4, 4, 4};
        for (int holders = 0; holders <= 6; holders++) {
            asks(trueOnes(holders), "best(10, 0) of " + holders, s -> s.best(10, 0), alwaysCome[holders]);
            asks(trueOnes(holders), "best(5, 5) of " + holders, s -> s.best(5, 5), 4);
        }
        asks(trueOnes(1), "best(0, 10) of 1: 2 to 4 are alike", s -> s.best(0, 10), 4);
        asks(trueOnes(6), "best(0, 10) of 6: 1 to 4 are alike", s -> s.best(0, 10), 4);
        asks(trueOnes(3), "best(5, 0) of 3: fewer come more surely", s -> s.best(5, 0), 1);
        asks(trueOnes(3), "best(10, 5) of 3: more are bought more rarely", s -> s.best(10, 5), 3);
        asks(trueOnes(3), "best(5, 10) of 3: all but 4 lose", s -> s.best(5, 10), 4);
        asks(trueOnes(1), "best(1, 0) of 1", s -> s.best(1, 0), 1);
        asks(trueOnes(6), "best(1, 9) of 6", s -> s.best(1, 9), 1);
        asks(with(made(0, 1), new int[6]), "best(10, 0) whatever ENOUGH is now", s -> s.best(10, 0), 3);
    }

    private static void mustOfADay() {
        SafeShares x = trueOnes(2);
        asks(x, "must(0)", s -> s.must(0), 3);
        asks(x, "must(999)", s -> s.must(999), 3);
        bad(x, "must(-1)", s -> s.must(-1));
        bad(x, "must(1000)", s -> s.must(1000));
        bad(x, "must(least)", s -> s.must(LEAST));
        bad(x, "must(most)", s -> s.must(MOST));
        asks(trueOnes(6), "must(0) of six", s -> s.must(0), 0);
        asks(with(made(7, 4), new int[8]), "must(0) of just enough", s -> s.must(0), 15);
        SafeShares shut = with(made(3, 1), 0, 0, 2, 1);
        pass(shut, 3, 2);
        due("count(4)", shut.count(4), 1);
        asks(shut, "must(3) while shut", s -> s.must(3), 1);
    }

    private static void mustIfItWouldOpen() {
        asks(new SafeShares(), "must(0) of nobody", s -> s.must(0), 0);
        asks(trueOnes(1), "must(0) of too few", s -> s.must(0), 0);
        asks(with(made(3, 1), 2, 1, 0, 0), "must(0): wrong with all, open with one", s -> s.must(0), 0);
        SafeShares forgets = with(made(42, 2, 17), 1, 0, 0, 0);
        asks(forgets, "must(0): one forgets", s -> s.must(0), 0);
        asks(forgets, "must(1)", s -> s.must(1), 3);
        SafeShares sold = with(made(3, 1), 5, 94, 0, 0);
        asks(sold, "must(3): sold by 97, so truly", s -> s.must(3), 0);
        asks(sold, "must(2)", s -> s.must(2), 0);
    }

    private static void mustAllThereButOne() {
        SafeShares x = with(made(3, 1), 3, 1, 0, 0, 0, 0);
        asks(x, "must(0): without a third the first is afraid", s -> s.must(0), 6);
        with(x, 0, 0);
        asks(x, "must(0): three are left", s -> s.must(0), 0);
        SafeShares wrongBehind = with(made(42, 2, 17), 0, 0, 0, 0, 2, 1);
        asks(wrongBehind, "must(0): without one of two the wrong one is found by", s -> s.must(0), 3);
    }

    private static void carsEitherWay() {
        for (int holders = 0; holders <= 6; holders++) {
            for (int enough = 1; enough <= 4; enough++) {
                SafeShares x = with(made(0, enough), new int[2 * holders]);
                int partings = 0;
                for (int first = 0; first < 1 << holders; first++) {
                    int many = Integer.bitCount(first);
                    int left = many >= enough && holders - many >= enough ? 1 : 0;
                    due("cars(" + first + ", 0) of " + holders + " by ENOUGH " + enough, x.cars(first, 0), left);
                    partings += left;
                }
                due("cars(0, 1) of " + holders + " by ENOUGH " + enough, x.cars(0, 1), partings);
            }
        }
    }

    private static void partings() {
        asks(new SafeShares(), "cars(0, 1) of nobody", s -> s.cars(0, 1), 0);
        asks(trueOnes(3), "cars(0, 1): one too few", s -> s.cars(0, 1), 0);
        asks(trueOnes(4), "cars(0, 1): two and two", s -> s.cars(0, 1), 6);
        asks(trueOnes(6), "cars(63, 1)", s -> s.cars(63, 1), 50);
        asks(with(made(0, 1), new int[12]), "cars(0, 1): all but nobody and all", s -> s.cars(0, 1), 62);
        asks(with(made(0, 3), new int[12]), "cars(0, 1): three and three", s -> s.cars(0, 1), 20);
        asks(with(made(0, 4), new int[12]), "cars(0, 1): four and two", s -> s.cars(0, 1), 0);
    }

    private static void carsRefused() {
        SafeShares x = trueOnes(4);
        asks(x, "cars(3, 0)", s -> s.cars(3, 0), 1);
        asks(x, "cars(15, 0)", s -> s.cars(15, 0), 0);
        bad(x, "cars(16, 0)", s -> s.cars(16, 0));
        bad(x, "cars(16, 1)", s -> s.cars(16, 1));
        bad(x, "cars(-1, 0)", s -> s.cars(-1, 0));
        bad(x, "cars(-1, 1)", s -> s.cars(-1, 1));
        bad(x, "cars(least, 0)", s -> s.cars(LEAST, 0));
        bad(x, "cars(most, 1)", s -> s.cars(MOST, 1));
        bad(x, "cars(0, -1)", s -> s.cars(0, -1));
        bad(x, "cars(0, 2)", s -> s.cars(0, 2));
        bad(x, "cars(0, least)", s -> s.cars(0, LEAST));
        bad(x, "cars(0, most)", s -> s.cars(0, MOST));
        bad(trueOnes(6), "cars(64, 0)", s -> s.cars(64, 0));
    }

    private static void envelope(SafeShares x, String what, int d, int which, int days) {
        asks(x, "envelope(" + d + ", 0): " + what, s -> s.envelope(d, 0), which);
        asks(x, "envelope(" + d + ", 1): " + what, s -> s.envelope(d, 1), days);
    }

    private static void envelopeDays() {
        SafeShares x = with(made(3, 2), 5, 90, 5, 96);
        envelope(x, "the first is true on day 7, 104 .., the second on day 1, 98 ..", 0, 0, 1);
        envelope(x, "day 1 is the first of ten", 1, 0, 1);
        envelope(x, "day 1 is past, 7 is not", 2, 1, 1);
        envelope(x, "day 7 is the first of ten", 7, 1, 1);
        envelope(x, "both are past", 8, 0, 0);
        envelope(x, "day 98 is none of ten", 88, 0, 0);
        envelope(x, "day 98 is the last of ten", 89, 0, 1);
        envelope(x, "day 971 is past, 977 is not", 972, 1, 1);
        envelope(x, "no true day", 990, 0, 0);
    }

    private static void envelopeRefused() {
        SafeShares x = trueOnes(2);
        envelope(x, "the first days", 0, 0, 10);
        envelope(x, "the last days", 990, 0, 10);
        bad(x, "envelope(-1, 0)", s -> s.envelope(-1, 0));
        bad(x, "envelope(991, 0)", s -> s.envelope(991, 0));
        bad(x, "envelope(least, 0)", s -> s.envelope(LEAST, 0));
        bad(x, "envelope(most, 1)", s -> s.envelope(MOST, 1));
        bad(x, "envelope(0, -1)", s -> s.envelope(0, -1));
        bad(x, "envelope(0, 2)", s -> s.envelope(0, 2));
        bad(x, "envelope(0, least)", s -> s.envelope(0, LEAST));
        bad(x, "envelope(0, most)", s -> s.envelope(0, MOST));
        bad(new SafeShares(), "envelope(991, 0) of nobody", s -> s.envelope(991, 0));
    }

    private static void envelopeStaysAway() {
        SafeShares x = with(made(3, 2, 5), 1, 0, 0, 0);
        envelope(x, "the forgetting one stays away", 0, 0, 10);
        SafeShares y = with(made(3, 2, 5), 0, 0, 1, 0);
        envelope(y, "the forgetting one stays away, behind", 0, 1, 10);
        SafeShares wrong = with(made(3, 2, 5), 0, 0, 2, 1, 0, 0);
        envelope(wrong, "the wrong one's share is the true one", 0, 1, 10);
        SafeShares afraid = with(made(3, 2, 5), 0, 0, 3, 1, 2, 1);
        envelope(afraid, "two come, so one is afraid; that one stays away", 0, 1, 10);
        SafeShares both = with(made(3, 2, 5), 3, 1, 2, 1, 0, 0);
        envelope(both, "two come, so the first is afraid, whoever of the others stays away", 0, 0, 0);
        SafeShares brave = with(made(3, 2, 5), 3, 1, 3, 1, 0, 0, 0, 0);
        envelope(brave, "three come, so nobody is afraid", 0, 0, 10);
        SafeShares alone = with(made(3, 1), 2, 1);
        envelope(alone, "one alone, whose envelope is enough", 0, 0, 10);
        SafeShares lacking = trueOnes(1);
        envelope(lacking, "too few", 0, 0, 0);
        SafeShares late = with(made(3, 2), 4, 4, 4, 4);
        envelope(late, "late ones tell on 2 4 8 of 0 .. 9", 0, 0, 3);
        envelope(late, "late ones tell on 2 4 8 10 of 1 .. 10", 1, 0, 4);
    }

    private static void envelopeOfLikeOnes() {
        envelope(trueOnes(6), "all six alike", 0, 0, 10);
        envelope(with(made(3, 2), 1, 1, 1, 1), "two alike who forget", 0, 0, 6);
        envelope(with(made(3, 2), 1, 1, 1, 1, 0, 0), "two alike who forget, and a true one", 0, 0, 10);
        envelope(with(made(3, 2, 1), 2, 1, 2, 1, 2, 1), "all wrong alike", 0, 0, 0);
    }

    private static void envelopeOfNobody() {
        SafeShares x = new SafeShares();
        envelope(x, "no holders", 0, -1, -1);
        envelope(x, "no holders", 990, -1, -1);
        with(x, 0, 0);
        x.safe(3, 1);
        envelope(x, "no holders any more", 0, -1, -1);
    }

    private static void daysRefused() {
        SafeShares x = trueOnes(2);
        asks(x, "days(0, 0, 0)", s -> s.days(0, 0, 0), 0);
        asks(x, "days(999999, 60, 100)", s -> s.days(999999, 60, 100), 60);
        bad(x, "days(-1, 0, 0)", s -> s.days(-1, 0, 0));
        bad(x, "days(1000000, 0, 0)", s -> s.days(1000000, 0, 0));
        bad(x, "days(0, -1, 0)", s -> s.days(0, -1, 0));
        bad(x, "days(0, 61, 0)", s -> s.days(0, 61, 0));
        bad(x, "days(0, 0, -1)", s -> s.days(0, 0, -1));
        bad(x, "days(0, 0, 101)", s -> s.days(0, 0, 101));
        bad(x, "days(least, 0, 0)", s -> s.days(LEAST, 0, 0));
        bad(x, "days(most, 0, 0)", s -> s.days(MOST, 0, 0));
        bad(x, "days(0, least, 0)", s -> s.days(0, LEAST, 0));
        bad(x, "days(0, most, 0)", s -> s.days(0, MOST, 0));
        bad(x, "days(0, 0, least)", s -> s.days(0, 0, LEAST));
        bad(x, "days(0, 0, most)", s -> s.days(0, 0, MOST));
    }

    private static void lessThanW() {
        SafeShares x = with(made(3, 1), 0, 0);
        asks(x, "days(0, 60, 0): nobody comes", s -> s.days(0, 60, 0), 0);
        asks(x, "days(0, 60, 100): all come", s -> s.days(0, 60, 100), 60);
        asks(x, "days(0, 1, 0): 0 is not less", s -> s.days(0, 1, 0), 0);
        asks(x, "days(0, 1, 1): 0 is less", s -> s.days(0, 1, 1), 1);
        asks(x, "days(0, 2, 68): 0 and 68, not less", s -> s.days(0, 2, 68), 1);
        asks(x, "days(0, 2, 69): 0 and 68", s -> s.days(0, 2, 69), 2);
        asks(x, "days(1, 6, 38): 38 58 13 15 51 27", s -> s.days(1, 6, 38), 3);
        asks(x, "days(1, 6, 39)", s -> s.days(1, 6, 39), 4);
        asks(x, "days(999999, 1, 28): 28", s -> s.days(999999, 1, 28), 0);
        asks(x, "days(999999, 1, 29): 28", s -> s.days(999999, 1, 29), 1);
        SafeShares two = trueOnes(2);
        asks(two, "days(1, 3, 58): 38 58, 13 15, 51 27", s -> s.days(1, 3, 58), 2);
        asks(two, "days(1, 3, 59)", s -> s.days(1, 3, 59), 3);
        asks(two, "days(1, 3, 15)", s -> s.days(1, 3, 15), 0);
        asks(new SafeShares(), "days(1, 60, 100) of nobody", s -> s.days(1, 60, 100), 0);
    }

    private static void fromNowOn() {
        SafeShares sold = with(made(3, 1), 5, 90);
        asks(sold, "days(0, 7, 100): day 7 is none of seven", s -> s.days(0, 7, 100), 0);
        asks(sold, "days(0, 8, 100): days 3 and 7 are shut", s -> s.days(0, 8, 100), 0);
        sold.day(0);
        asks(sold, "days(0, 6, 100) from day 1", s -> s.days(0, 6, 100), 0);
        asks(sold, "days(0, 7, 100) from day 1: day 4 is shut, 7 opens", s -> s.days(0, 7, 100), 1);
        pass(sold, 3, 1);
        asks(sold, "days(0, 4, 100) from day 4, shut: 7 opens", s -> s.days(0, 4, 100), 1);
        asks(sold, "days(0, 3, 100) from day 4, shut", s -> s.days(0, 3, 100), 0);
        sold.undo();
        due("count(3)", sold.count(3), 2);
        asks(sold, "days(0, 5, 100) from day 3 with two tries: 4 is shut, 7 opens", s -> s.days(0, 5, 100), 1);
        sold.undo();
        sold.undo();
        sold.day(0);
        sold.day(0);
        due("count(2)", sold.count(2), 3);
        asks(sold, "days(0, 5, 100) from day 3 with no tries: 6 is shut, 7 opens", s -> s.days(0, 5, 100), 1);
        sold.day(0);
        asks(sold, "days(0, 4, 100) from day 4 with no tries: 7 is shut", s -> s.days(0, 4, 100), 0);
        due("day(0): it was not shut by these", sold.day(0), 0);
    }

    private static void withTheTriesOfNow() {
        SafeShares fresh = with(made(3, 1), 5, 90);
        pass(fresh, 6, 0);
        asks(fresh, "days(0, 2, 100) from day 6 with no tries: 7 opens", s -> s.days(0, 2, 100), 1);
        SafeShares tried = with(made(3, 1), 5, 90);
        pass(tried, 4, 0);
        pass(tried, 2, 1);
        due("count(3)", tried.count(3), 2);
        asks(tried, "days(0, 2, 100) from day 6 with two tries: 7 is shut", s -> s.days(0, 2, 100), 0);
    }

    private static void drawnWhileShut() {
        SafeShares x = with(made(3, 1), 2, 1, 0, 0);
        pass(x, 3, 1);
        due("count(4)", x.count(4), 1);
        asks(x, "days(0, 2, 18): 0 68 while shut, 88 17 then, so the second, true one", s -> s.days(0, 2, 18), 1);
        asks(x, "days(0, 2, 17): nobody then", s -> s.days(0, 2, 17), 0);
    }

    public static void main(String[] args) {
        sentence("each HOLDER comes by o of 10 (0 .. 10), apart", ManyEdgesTest::tenths);
        sentence("the chance that ENOUGH come or more: THE FRACTION.", ManyEdgesTest::enoughOrMore);
        sentence("THE FRACTION is 0 by 1 at first; lowest terms, below above 0.", ManyEdgesTest::lowestTerms);
        sentence("less the chance that so many or more are bought by c of 10 (0 .. 10) each",
                ManyEdgesTest::bestRefused);
        sentence("is most; of like ones the greatest.", ManyEdgesTest::bestOfLikeOnes);
        sentence("MUST, as bits. BAD.", ManyEdgesTest::mustOfADay);
        sentence("if it would open with all; else 0)", ManyEdgesTest::mustIfItWouldOpen);
        sentence("(told as KINDS tell, all there but that one", ManyEdgesTest::mustAllThereButOne);
        sentence("one car may be lost: 1, if ENOUGH are left either way, else 0", ManyEdgesTest::carsEitherWay);
        sentence("PARTINGS: by how many sets of HOLDERS in the first that is 1.", ManyEdgesTest::partings);
        sentence("CARS (0; 1, 0), PARTINGS (1). BAD.", ManyEdgesTest::carsRefused);
        sentence("on how many of DAYS d to d and 9 (d 0 .. 990)", ManyEdgesTest::envelopeDays);
        sentence("ENVELOPE: which (0), on how many DAYS (1). NONE. BAD.", ManyEdgesTest::envelopeRefused);
        sentence("a HOLDER stays away, the true SHARE lies in an envelope, all others come",
                ManyEdgesTest::envelopeStaysAway);
        sentence("the HOLDER by whom these are most; of like ones the least", ManyEdgesTest::envelopeOfLikeOnes);
        sentence("none: no HOLDERS.", ManyEdgesTest::envelopeOfNobody);
        sentence("DAYS by a SEED, n (0 .. 60), w (0 .. 100)", ManyEdgesTest::daysRefused);
        sentence("by 100 left over, less than w: one comes", ManyEdgesTest::lessThanW);
        sentence("each DAY (from now on)", ManyEdgesTest::fromNowOn);
        sentence("each DAY (from now on)", ManyEdgesTest::withTheTriesOfNow);
        sentence("for each HOLDER in order, X as in CHANGE", ManyEdgesTest::drawnWhileShut);
        end();
    }
}
