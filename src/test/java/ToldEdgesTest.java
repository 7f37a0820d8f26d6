/** Boundary cases of what was told: whether it agrees, who told it wrongly, and shares of two safes mixed. */
public final class ToldEdgesTest extends Checks {
    private static final int LEAST = Integer.MIN_VALUE, MOST = Integer.MAX_VALUE;

    private ToldEdgesTest() {
    }

    private static void three(SafeShares x, String told, int agree, int liars, int guess) {
        asks(x, "agree() of " + told, s -> s.agree(), agree);
        asks(x, "liars() of " + told, s -> s.liars(), liars);
        asks(x, "guess() of " + told, s -> s.guess(), guess);
    }

    private static void pointsThereOrNot() {
        SafeShares x = new SafeShares();
        for (int p = 0; p < 6; p++) {
            due("tell(" + p + ", 9) with nobody there", x.tell(p, 9), -1);
            due("count(5)", x.count(5), p + 1);
        }
        bad(x, "tell(-1, 9)", s -> s.tell(-1, 9));
        bad(x, "tell(6, 9)", s -> s.tell(6, 9));
        bad(x, "tell(least, 9)", s -> s.tell(LEAST, 9));
        bad(x, "tell(most, 9)", s -> s.tell(MOST, 9));
        with(x, 0, 0);
        due("tell(0, 9) of a holder who has come", x.tell(0, 9), 9);
    }

    private static void aNumberEachOrNone() {
        SafeShares x = new SafeShares();
        due("tell(0, -1) where none was", x.tell(0, -1), -1);
        due("count(5)", x.count(5), 0);
        due("tell(0, 0)", x.tell(0, 0), -1);
        due("count(5)", x.count(5), 1);
        due("tell(0, 96)", x.tell(0, 96), 0);
        due("tell(0, -1)", x.tell(0, -1), 96);
        due("count(5)", x.count(5), 0);
        due("tell(0, 96)", x.tell(0, 96), -1);
        bad(x, "tell(0, -2)", s -> s.tell(0, -2));
        bad(x, "tell(0, 97)", s -> s.tell(0, 97));
        bad(x, "tell(0, least)", s -> s.tell(0, LEAST));
        bad(x, "tell(0, most)", s -> s.tell(0, MOST));
        due("tell(0, 0)", x.tell(0, 0), 96);
    }

    private static void toldAtAPoint() {
        SafeShares x = new SafeShares();
        bad(x, "tell(-1, -1)", s -> s.tell(-1, -1));
        bad(x, "tell(6, -1)", s -> s.tell(6, -1));
        tellAll(x, 1, 2, 3, 4, 5, 6);
        due("tell(3, -1)", x.tell(3, -1), 4);
        due("digest()", x.digest(), digestOf(0, 2, 0, 0, 0, 5, 0, 0, 0, 0, 0, 0, 1, 2, 3, -1, 5, 6, 0, 1));
    }

    private static void forgotten() {
        SafeShares x = new SafeShares();
        due("forget() of nothing", x.forget(), 0);
        x.tell(5, 0);
        due("forget() of one", x.forget(), 1);
        tellAll(x, 0, 0, 0, 0, 0, 0);
        due("forget() of six", x.forget(), 6);
        due("count(5)", x.count(5), 0);
        due("digest()", x.digest(), new SafeShares().digest());
        due("forget() again", x.forget(), 0);
        due("agree()", x.agree(), -1);
    }

    private static void agreeing() {
        int[][] rows = {{5, 5}, {5, 6, 7}, {1, 4, 9, 16}, {1, 8, 27, 64, 28}};
        for (int enough = 1; enough <= 4; enough++) {
            SafeShares x = made(0, enough);
            int[] row = rows[enough - 1];
            asks(x, "agree() of nothing by ENOUGH " + enough, s -> s.agree(), -1);
            for (int p = 0; p < row.length; p++) {
                x.tell(p, row[p]);
                asks(x, "agree() of " + (p + 1) + " by ENOUGH " + enough, s -> s.agree(), p + 1 < enough ? -1 : 1);
            }
            x.tell(row.length - 1, row[row.length - 1] + 1);
            asks(x, "agree() with the last one apart", s -> s.agree(), 0);
            x.tell(row.length - 1, -1);
            asks(x, "agree() without it", s -> s.agree(), 1);
        }
    }

    private static void allOthersLieOnIt() {
        SafeShares x = made(0, 2);
        tellAll(x, 1, 2, 3, 4, 5, 6);
        asks(x, "agree()", s -> s.agree(), 1);
        for (int p = 0; p < 6; p++) {
            int before = x.tell(p, 96);
            asks(x, "agree() with point " + p + " apart", s -> s.agree(), 0);
            x.tell(p, before);
        }
        tellAll(x, -1, -1, -1, -1, 5, 6);
        asks(x, "agree() of the last two", s -> s.agree(), 1);
        x.tell(5, -1);
        asks(x, "agree() of one too few", s -> s.agree(), -1);
    }

    private static void fewestLiars() {
        SafeShares x = made(0, 2);
        tellAll(x, 1, 2, 3, 4);
        three(x, "four that agree", 1, 0, 0);
        tellAll(x, 1, 2, 3, 5);
        three(x, "the last apart", 0, 8, 0);
        tellAll(x, 2, 2, 3, 4);
        three(x, "the first apart", 0, 1, 0);
        tellAll(x, 1, 2, 3, 4, 6, 8);
        three(x, "four on one row, three on another", 0, 48, 0);
        tellAll(x, 1, 2, 3, 5, 7, 9);
        three(x, "three first on one row, four last on another", 0, 3, 94);
        tellAll(x, 1, 96, 2, 50, 3, 4);
        three(x, "three on one row, three on another, across", 0, 21, 45);
        tellAll(x, 1, 4, 9, 16, 25, 36);
        three(x, "squares, no three on a row", 0, -1, -1);
    }

    private static void ofLikeOnesTheLeast() {
        SafeShares x = made(0, 1);
        tellAll(x, 5, 5, 6, 6);
        three(x, "two and two", 0, 3, 6);
        tellAll(x, 5, 6, 5, 6);
        three(x, "two and two across", 0, 5, 6);
        tellAll(x, 5, 6, 6, 5);
        three(x, "two within two", 0, 6, 5);
        tellAll(x, 5, 5, 6, 6, 7, 7);
        three(x, "two and two and two", 0, 15, 7);
        tellAll(x, 7, 5, 6, 6, 5, 7);
        three(x, "twos within twos", 0, 30, 7);
        x.safe(0, 2);
        tellAll(x, 2, 3, 4, 9, 9, 9);
        three(x, "three and three", 0, 7, 9);
        tellAll(x, 9, 9, 9, 2, 3, 4);
        three(x, "three and three, turned", 0, 7, 95);
    }

    private static void enoughAndOneLeft() {
        int[][] rows = {{5, 6}, {1, 2, 4}, {1, 4, 9, 17}, {1, 8, 27, 64, 29}};
        for (int enough = 1; enough <= 4; enough++) {
            SafeShares x = made(0, enough);
            three(x, "nothing", -1, -1, -1);
            int[] row = rows[enough - 1];
            for (int p = 0; p < enough; p++) {
                x.tell(p, row[p]);
            }
            three(x, "just enough", 1, -1, -1);
            x.tell(enough, row[enough]);
            three(x, "one more, apart", 0, -1, -1);
        }
        SafeShares y = made(0, 4);
        tellAll(y, 1, 8, 27, 64, 28);
        three(y, "five cubes", 1, 0, 0);
        tellAll(y, 1, 8, 27, 64, 28, 96);
        three(y, "five cubes and one apart", 0, 32, 0);
        tellAll(y, 1, 8, 27, 64, 29, 96);
        three(y, "four cubes and two apart", 0, -1, -1);
    }

    private static void guessed() {
        SafeShares x = trueOnes(3);
        three(x, "nothing", -1, -1, -1);
        tellAll(x, 59, 76);
        three(x, "enough, and no more", 1, -1, -1);
        tellAll(x, 60, 76, 93, 13);
        three(x, "the first apart, found by others", 0, 1, 42);
        tellAll(x, 0, 0, 0, 0);
        three(x, "four of 0", 1, 0, 0);
        tellAll(x, 96, 95, 94);
        x.tell(3, -1);
        three(x, "three from 97 down", 1, 0, 0);
        x.forget();
        tellAll(x, -1, -1, -1, 13, 30, 47);
        three(x, "the last three", 1, 0, 42);
    }

    /** Kept: 42 and 17 x; now: 42 and 20 x, so shares 62 82 5. */
    private static SafeShares mixing() {
        SafeShares x = trueOnes(3);
        x.image(1);
        x.way(1, 20);
        return x;
    }

    private static void mixedImages() {
        SafeShares x = mixing();
        asks(x, "mixed(1, 1, 2): 59 at 1, 82 at 2", s -> s.mixed(1, 1, 2), 36);
        x.image(0);
        asks(x, "mixed(0, 1, 2): both as now", s -> s.mixed(0, 1, 2), 42);
        bad(x, "mixed(-1, 0, 0)", s -> s.mixed(-1, 0, 0));
        bad(x, "mixed(2, 0, 0)", s -> s.mixed(2, 0, 0));
        bad(x, "mixed(least, 0, 0)", s -> s.mixed(LEAST, 0, 0));
        bad(x, "mixed(most, 0, 0)", s -> s.mixed(MOST, 0, 0));
    }

    private static void notKept() {
        SafeShares x = trueOnes(2);
        refused(x, NO, -3, "mixed(0, 1, 2)", s -> s.mixed(0, 1, 2));
        refused(x, NO, -3, "mixed(1, 1, 2)", s -> s.mixed(1, 1, 2));
        refused(x, NO, -3, "mixed(1, 0, 0) of nobody", s -> s.mixed(1, 0, 0));
        x.image(0);
        asks(x, "mixed(0, 1, 2)", s -> s.mixed(0, 1, 2), 42);
        refused(x, NO, -3, "mixed(1, 1, 2) with the other kept", s -> s.mixed(1, 1, 2));
        x.safe(7, 1);
        asks(x, "mixed(0, 0, 0) behind safe", s -> s.mixed(0, 0, 0), -1);
    }

    private static void nobodyInBoth() {
        SafeShares x = mixing();
        for (int h = 1; h <= 4; h *= 2) {
            int who = h;
            bad(x, "mixed(1, " + h + ", " + h + ")", s -> s.mixed(1, who, who));
            bad(x, "mixed(1, 7, " + h + ")", s -> s.mixed(1, 7, who));
            bad(x, "mixed(1, " + h + ", 7)", s -> s.mixed(1, who, 7));
        }
        asks(x, "mixed(1, 7, 0)", s -> s.mixed(1, 7, 0), 42);
        asks(x, "mixed(1, 0, 7)", s -> s.mixed(1, 0, 7), 42);
    }

    private static void mixedHolders() {
        SafeShares x = mixing();
        asks(x, "mixed(1, 4, 3)", s -> s.mixed(1, 4, 3), 42);
        bad(x, "mixed(1, 8, 0)", s -> s.mixed(1, 8, 0));
        bad(x, "mixed(1, 0, 8)", s -> s.mixed(1, 0, 8));
        bad(x, "mixed(1, -1, 0)", s -> s.mixed(1, -1, 0));
        bad(x, "mixed(1, 0, -1)", s -> s.mixed(1, 0, -1));
        bad(x, "mixed(1, least, 0)", s -> s.mixed(1, LEAST, 0));
        bad(x, "mixed(1, 0, most)", s -> s.mixed(1, 0, MOST));
        with(x, 2, 9);
        asks(x, "mixed(1, 8, 1): one who came since has an old share, 13 at 4; 62 at 1", s -> s.mixed(1, 8, 1), 46);
        bad(x, "mixed(1, 16, 0)", s -> s.mixed(1, 16, 0));
        with(x, 0, 0, 0, 0);
        bad(x, "mixed(1, 64, 0)", s -> s.mixed(1, 64, 0));
        bad(x, "mixed(1, 0, 64)", s -> s.mixed(1, 0, 64));
    }

    private static void enoughAsNow() {
        SafeShares x = mixing();
        x.safe(7, 3);
        with(x, 0, 0, 0, 0, 0, 0);
        asks(x, "mixed(1, 3, 0): two are too few now", s -> s.mixed(1, 3, 0), -1);
        asks(x, "mixed(1, 7, 0): three on the old row", s -> s.mixed(1, 7, 0), 42);
        x.safe(7, 1);
        with(x, 0, 0, 0, 0, 0, 0);
        asks(x, "mixed(1, 2, 0): one is enough now, 76 by the old way", s -> s.mixed(1, 2, 0), 76);
        asks(x, "mixed(1, 6, 1): the first by numbers", s -> s.mixed(1, 6, 1), 7);
        SafeShares y = with(made(3, 4, 1, 1, 1), 0, 0, 0, 0);
        y.image(0);
        y.safe(3, 1);
        with(y, 0, 0, 0, 0);
        asks(y, "mixed(0, 2, 0): all three c of the old way", s -> s.mixed(0, 2, 0), 3 + 2 + 4 + 8);
    }

    private static void mixedTooFew() {
        SafeShares x = mixing();
        asks(x, "mixed(1, 0, 0)", s -> s.mixed(1, 0, 0), -1);
        asks(x, "mixed(1, 1, 0)", s -> s.mixed(1, 1, 0), -1);
        asks(x, "mixed(1, 0, 4)", s -> s.mixed(1, 0, 4), -1);
        asks(x, "mixed(1, 1, 4): 59 at 1, 5 at 3", s -> s.mixed(1, 1, 4), 59 + 27);
        asks(x, "mixed(1, 4, 1): 62 at 1, 93 at 3", s -> s.mixed(1, 4, 1), 95);
    }

    public static void main(String[] args) {
        sentence("TOLD of points 0 .. 5 (HOLDERS, there or not)", ToldEdgesTest::pointsThereOrNot);
        sentence("a number each (0 .. 96), or none (at first).", ToldEdgesTest::aNumberEachOrNone);
        sentence("TOLD at a point (0 .. 5; -1: none): what it was (NONE: none). BAD.", ToldEdgesTest::toldAtAPoint);
        sentence("Nothing TOLD: at how many points there was.", ToldEdgesTest::forgotten);
        sentence("whether all that is TOLD AGREES (1, 0; fewer than ENOUGH: -1).", ToldEdgesTest::agreeing);
        sentence("they AGREE, if all others lie on it, too.", ToldEdgesTest::allOthersLieOnIt);
        sentence("LIARS: the fewest points", ToldEdgesTest::fewestLiars);
        sentence("(bits; of like ones the least) without which all others AGREE", ToldEdgesTest::ofLikeOnesTheLeast);
        sentence("ENOUGH and 1 at least being left; none.", ToldEdgesTest::enoughAndOneLeft);
        sentence("GUESS: what is FOUND of those TOLD without LIARS; none.", ToldEdgesTest::guessed);
        sentence("as kept in IMAGE i (0, 1)", ToldEdgesTest::mixedImages);
        sentence("NO: it was not kept.", ToldEdgesTest::notKept);
        sentence("others (bits; nobody in both) SHARES as now", ToldEdgesTest::nobodyInBoth);
        sentence("MIXED: HOLDERS (bits) bring SHARES by THE NUMBER, ENOUGH, the WAY as kept",
                ToldEdgesTest::mixedHolders);
        sentence("what is FOUND (by ENOUGH as now)", ToldEdgesTest::enoughAsNow);
        sentence("none: too few; NO", ToldEdgesTest::mixedTooFew);
        end();
    }
}
