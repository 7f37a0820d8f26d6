/** Boundary cases of what there is: the fraction, images, what was refused, counts and the digest. */
public final class KeptEdgesTest extends Checks {
    private static final int LEAST = Integer.MIN_VALUE, MOST = Integer.MAX_VALUE;

    private KeptEdgesTest() {
    }

    private static void parts() {
        SafeShares x = trueOnes(3);
        asks(x, "part(0) at first", s -> s.part(0), 0);
        asks(x, "part(1) at first", s -> s.part(1), 1);
        x.odds(1);
        asks(x, "part(0)", s -> s.part(0), 7);
        asks(x, "part(1)", s -> s.part(1), 250);
        bad(x, "part(-1)", s -> s.part(-1));
        bad(x, "part(2)", s -> s.part(2));
        bad(x, "part(least)", s -> s.part(LEAST));
        bad(x, "part(most)", s -> s.part(MOST));
    }

    private static void images() {
        SafeShares x = made(5, 3);
        due("image(0)", x.image(0), 1);
        x.safe(6, 4);
        due("image(1)", x.image(1), 1);
        bad(x, "image(-1)", s -> s.image(-1));
        bad(x, "image(2)", s -> s.image(2));
        bad(x, "image(least)", s -> s.image(LEAST));
        bad(x, "image(most)", s -> s.image(MOST));
        x.safe(7, 1);
        due("from(0)", x.from(0), 1);
        due("count(1)", x.count(1), 3);
        due("from(1)", x.from(1), 1);
        due("count(1)", x.count(1), 4);
        due("image(0) over an older one", x.image(0), 1);
        x.safe(7, 1);
        x.from(0);
        due("count(1)", x.count(1), 4);
    }

    private static void noneWasKept() {
        SafeShares x = trueOnes(2);
        x.day(3);
        refused(x, NO, -3, "from(0)", s -> s.from(0));
        refused(x, NO, -3, "from(1)", s -> s.from(1));
        bad(x, "from(-1)", s -> s.from(-1));
        bad(x, "from(2)", s -> s.from(2));
        bad(x, "from(least)", s -> s.from(LEAST));
        bad(x, "from(most)", s -> s.from(MOST));
        bad(x, "image(2)", s -> s.image(2));
        refused(x, NO, -3, "from(0) behind a refused image", s -> s.from(0));
        x.image(1);
        refused(x, NO, -3, "from(0) with the other kept", s -> s.from(0));
        due("from(1)", x.from(1), 1);
        x.safe(1, 1);
        due("from(1) behind safe", x.from(1), 1);
        due("undo() behind it", x.undo(), 0);
    }

    private static void imagesKeepAll() {
        SafeShares x = with(made(96, 1, 1, 2, 3), 2, 1, 3, 2, 4, 3, 5, 4, 0, 96, 1, 95);
        tellAll(x, 0, 1, 2, 3, 95, 96);
        pass(x, 2, 1);
        long two = x.digest();
        x.image(0);
        pass(x, 1, 1);
        long shut = x.digest();
        x.image(1);
        x.safe(0, 2);
        x.way(2, 9);
        with(x, 1, 1);
        x.tell(3, 50);
        x.day(1);
        due("from(0)", x.from(0), 1);
        due("digest()", x.digest(), two);
        due("finds(1)", x.finds(1), 96);
        due("from(1)", x.from(1), 1);
        due("digest()", x.digest(), shut);
        due("day(1): it is shut", x.day(1), 3);
        due("from(0)", x.from(0), 1);
        due("day(1): a third wrong one", x.day(1), 2);
        due("count(4)", x.count(4), 1);
        due("from(0) again", x.from(0), 1);
        due("digest() again", x.digest(), two);
    }

    private static void imagesStay() {
        SafeShares x = trueOnes(2);
        x.day(1);
        x.image(0);
        long kept = x.digest();
        x.from(0);
        x.way(1, 1);
        x.tell(0, 1);
        x.day(3);
        x.change(1);
        with(x, 5, 5);
        x.day(7);
        x.from(0);
        due("digest() behind much else", x.digest(), kept);
        due("of(1, 2)", x.of(1, 2), 76);
        due("undo()", x.undo(), 0);
        x.from(0);
        due("count(6) behind an undo", x.count(6), 1);
    }

    private static void allButThem() {
        SafeShares x = trueOnes(2);
        x.image(0);
        x.safe(9, 3);
        x.image(1);
        x.from(0);
        due("from(1) is kept still", x.from(1), 1);
        due("count(1)", x.count(1), 3);
        x.odds(0);
        put(x, "ab");
        x.image(1);
        with(x, 0, 0, 0, 0, 0, 0);
        x.odds(10);
        put(x, "safe 1 1;");
        x.holder(6, 6);
        x.undo();
        x.from(1);
        due("part(0): not as kept", x.part(0), 1);
        due("part(1): not as kept", x.part(1), 1);
        due("count(7): not as kept", x.count(7), 9);
        due("read(): not as kept", x.read(), 1);
        due("status(0): not as kept", x.status(BAD), 1);
        due("status(1): not as kept", x.status(NO), 1);
    }

    private static void undoneFromAnImage() {
        SafeShares x = trueOnes(2);
        for (int d = 0; d < 4; d++) {
            x.day(0);
            x.change(d);
        }
        x.image(0);
        int way = x.way(1, 0);
        x.safe(1, 1);
        pass(x, 9, 0);
        x.image(1);
        x.from(0);
        due("count(6) of eight kept", x.count(6), 8);
        due("way(1, 0)", x.way(1, 0), way);
        int[] days = {4, 3, 3, 2, 2, 1, 1, 0};
        for (int day : days) {
            due("undo()", x.undo(), day);
        }
        refused(x, NO, -3, "undo()", s -> s.undo());
        due("way(1, 0) as at first", x.way(1, 0), 17);
        x.from(1);
        for (int day = 8; day >= 1; day--) {
            due("undo() of the other", x.undo(), day);
        }
        refused(x, NO, -3, "undo() of the other", s -> s.undo());
        SafeShares none = new SafeShares();
        none.image(0);
        none.day(0);
        none.from(0);
        refused(none, NO, -3, "undo() from one with nothing to undo", s -> s.undo());
    }

    private static void refusedByReason() {
        SafeShares x = trueOnes(6);
        for (int i = 1; i <= 3; i++) {
            x.odds(11);
            due("status(0)", x.status(0), i);
            x.undo();
            due("status(1)", x.status(1), i);
            x.holder(0, 0);
            due("status(2)", x.status(2), i);
        }
        for (int i = 0; i < 150; i++) {
            x.type(0);
        }
        x.type(0);
        due("status(2) behind type", x.status(2), 4);
        x.from(0);
        x.mixed(0, 0, 0);
        due("status(1) behind from and mixed", x.status(1), 5);
        x.day(64);
        x.comes(64, 0);
        x.status(3);
        due("status(0) behind day, comes, status", x.status(0), 6);
        due("status(1)", x.status(1), 5);
        due("status(2)", x.status(2), 4);
    }

    private static void answersThatAreNone() {
        SafeShares x = trueOnes(1);
        with(x, 1, 0);
        x.image(0);
        asks(x, "tells(1, 0, 1)", s -> s.tells(1, 0, 1), -1);
        asks(x, "finds(0)", s -> s.finds(0), -1);
        asks(x, "agree()", s -> s.agree(), -1);
        asks(x, "liars()", s -> s.liars(), -1);
        asks(x, "guess()", s -> s.guess(), -1);
        asks(x, "mixed(0, 0, 0)", s -> s.mixed(0, 0, 0), -1);
        asks(x, "tell(0, -1)", s -> s.tell(0, -1), -1);
        asks(x, "read()", s -> s.read(), -10);
        asks(new SafeShares(), "envelope(0, 0)", s -> s.envelope(0, 0), -1);
    }

    private static void othersCount() {
        SafeShares x = trueOnes(2);
        refused(x, BAD, -10, "day(4)", s -> s.day(4));
        refused(x, BAD, -10, "comes(4, 0)", s -> s.comes(4, 0));
        refused(x, BAD, -10, "comes(0, 1000)", s -> s.comes(0, 1000));
        refused(x, BAD, -1, "status(3)", s -> s.status(3));
        due("status(0)", x.status(0), 4);
    }

    private static void anotherStatus() {
        SafeShares x = new SafeShares();
        asks(x, "status(0)", s -> s.status(0), 0);
        asks(x, "status(1)", s -> s.status(1), 0);
        asks(x, "status(2)", s -> s.status(2), 0);
        refused(x, BAD, -1, "status(-1)", s -> s.status(-1));
        refused(x, BAD, -1, "status(3)", s -> s.status(3));
        refused(x, BAD, -1, "status(least)", s -> s.status(LEAST));
        refused(x, BAD, -1, "status(most)", s -> s.status(MOST));
        due("status(0)", x.status(0), 4);
    }

    private static void counts(SafeShares x, String when, int... want) {
        for (int what = 0; what < want.length; what++) {
            int asked = what;
            asks(x, "count(" + what + ") " + when, s -> s.count(asked), want[what]);
        }
    }

    private static void countsAtTheirEnds() {
        SafeShares x = new SafeShares();
        counts(x, "at first", 0, 2, 0, 0, 0, 0, 0, 0);
        bad(x, "count(-1)", s -> s.count(-1));
        bad(x, "count(8)", s -> s.count(8));
        bad(x, "count(least)", s -> s.count(LEAST));
        bad(x, "count(most)", s -> s.count(MOST));
        SafeShares y = with(made(1, 4), 2, 1, 2, 2, 2, 3, 2, 1, 0, 0, 0, 0);
        tellAll(y, 0, 0, 0, 0, 0, 0);
        pass(y, 7, 0);
        pass(y, 2, 15);
        counts(y, "behind two tries", 6, 4, 9, 2, 0, 6, 8, 0);
        y.day(15);
        for (int i = 0; i < 150; i++) {
            y.type(0);
        }
        counts(y, "behind three tries, with a full text", 6, 4, 10, 0, 1, 6, 8, 150);
    }

    private static void digests() {
        SafeShares x = new SafeShares();
        due("digest() at first", x.digest(),
                digestOf(0, 2, 0, 0, 0, 0, 0, 0, 0, 0, 0, 0, -1, -1, -1, -1, -1, -1, 0, 1));
        asks(x, "digest() again", s -> s.digest(), x.digest());
        SafeShares y = with(made(96, 1, 1, 2, 3), 2, 1, 3, 2, 4, 3, 5, 4, 0, 96, 1, 95);
        tellAll(y, 0, 1, 2, -1, 95, 96);
        pass(y, 3, 1);
        y.odds(1);
        y.type(0);
        due("digest() of six", y.digest(), digestOf(6, 1, 3, 0, 1, 5, 3, 1, 96, 1, 2, 3,
                2, 1, 3, 2, 4, 3, 5, 4, 0, 96, 1, 95, 0, 1, 2, -1, 95, 96, 468559, 1000000));
    }

    private static void digestOfEachValue() {
        SafeShares x = with(made(5, 1), 0, 0, 2, 1);
        long first = x.digest();
        x.type(0);
        due("a byte of THE TEXT", x.digest() - first, digestOf(2, 1, 0, 0, 0, 0, 0, 1, 5, 0, 0, 0, 0, 0, 2, 1,
                -1, -1, -1, -1, -1, -1, 0, 1) - first);
        x.clear();
        due("none again", x.digest(), first);
        x.tell(5, 0);
        due("told 0 at the last point", x.digest(), digestOf(2, 1, 0, 0, 0, 1, 0, 0, 5, 0, 0, 0, 0, 0, 2, 1,
                -1, -1, -1, -1, -1, 0, 0, 1));
        x.tell(5, -1);
        due("none told again", x.digest(), first);
        x.way(3, 96);
        due("c of power 3 beyond the way", x.digest(), digestOf(2, 1, 0, 0, 0, 0, 0, 0, 5, 0, 0, 96, 0, 0, 2, 1,
                -1, -1, -1, -1, -1, -1, 0, 1));
    }

    public static void main(String[] args) {
        sentence("THE FRACTION: above (0), below (1). BAD.", KeptEdgesTest::parts);
        sentence("An IMAGE is kept: 1. BAD.", KeptEdgesTest::images);
        sentence("It goes on from an IMAGE: 1. BAD; NO: none was kept.", KeptEdgesTest::noneWasKept);
        sentence("IMAGES 0, 1 keep all but them", KeptEdgesTest::imagesKeepAll);
        sentence("it goes on from one.", KeptEdgesTest::imagesStay);
        sentence("keep all but them, THE TEXT, THE FRACTION and STATUS", KeptEdgesTest::allButThem);
        sentence("what may be undone they keep", KeptEdgesTest::undoneFromAnImage);
        sentence("STATUS: how many calls were refused as BAD, NO, FULL", KeptEdgesTest::refusedByReason);
        sentence("(each answer told so below is such a one).", KeptEdgesTest::answersThatAreNone);
        sentence("(where others are told they count as these)", KeptEdgesTest::othersCount);
        sentence("STATUS: BAD (0), NO (1), FULL (2). -1: another what (counts as BAD).", KeptEdgesTest::anotherStatus);
        sentence("How many: 0 HOLDERS, 1 ENOUGH, 2 the DAY, 3 TRIES, 4 whether SHUT (1, 0), 5 points at which something"
                + " was TOLD, 6 that may be undone, 7 bytes of THE TEXT. BAD.", KeptEdgesTest::countsAtTheirEnds);
        sentence("count(0) to count(7); THE NUMBER; c of powers 1 to 3; of HOLDERS KIND, n", KeptEdgesTest::digests);
        sentence("TOLD at points 0 to 5 (NONE: -1); THE FRACTION.", KeptEdgesTest::digestOfEachValue);
        end();
    }
}
