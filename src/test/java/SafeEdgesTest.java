/** Boundary cases of a safe as it is made: its numbers, holders, way and the bytes of its text. */
public final class SafeEdgesTest extends Checks {
    private static final int LEAST = Integer.MIN_VALUE, MOST = Integer.MAX_VALUE;

    private SafeEdgesTest() {
    }

    private static void leftOver() {
        SafeShares x = with(made(96, 4, 96, 96, 96), 0, 0, 2, 1, 5, 96, 2, 96, 0, 0, 0, 0);
        due("of(0, 2): 4 times 96", x.of(0, 2), 93);
        due("of(1, 2): less 1 2 4 8", x.of(1, 2), 82);
        due("of(2, 2): less 1 3 9 27", x.of(2, 2), 57);
        due("of(3, 2): less 1 4 16 64", x.of(3, 2), 12);
        due("of(4, 2): less 1 5 25 125", x.of(4, 2), 38);
        due("of(5, 2): less 1 6 36 216", x.of(5, 2), 32);
        due("finds(63)", x.finds(63), 96);
        due("finds(60)", x.finds(60), 96);
        SafeShares y = with(made(96, 1), 2, 1, 2, 96, 5, 96, 2, 0);
        due("96 and 1", y.tells(0, 0, 1), 0);
        due("96 and 96", y.tells(1, 0, 1), 95);
        due("96 and 96 and 2", y.tells(2, 2, 1), 0);
        due("96 and 0", y.tells(3, 0, 1), 96);
        SafeShares z = made(0, 2);
        tellAll(z, 0, 96, 95);
        due("guess() of 0 96 95, one less each", z.guess(), 1);
        tellAll(z, 96, 0, 1);
        due("guess() of 96 0 1, one more each", z.guess(), 95);
        tellAll(z, 0, 0, 0);
        due("guess() of 0 0 0", z.guess(), 0);
        tellAll(z, 96, 96, 96);
        due("guess() of 96 96 96", z.guess(), 96);
    }

    private static void numberAtFirst() {
        SafeShares x = with(new SafeShares(), 0, 0, 0, 0);
        due("finds(3)", x.finds(3), 0);
        due("comes(3, 0)", x.comes(3, 0), 1);
        due("day(3)", x.day(3), 1);
        due("digest() of a new one", new SafeShares().digest(),
                digestOf(0, 2, 0, 0, 0, 0, 0, 0, 0, 0, 0, 0, -1, -1, -1, -1, -1, -1, 0, 1));
    }

    private static void enough() {
        SafeShares x = new SafeShares();
        due("count(1) at first", x.count(1), 2);
        for (int enough = 1; enough <= 4; enough++) {
            due("safe(0, " + enough + ")", x.safe(0, enough), 0);
            due("count(1)", x.count(1), enough);
        }
        bad(x, "safe(0, 0)", s -> s.safe(0, 0));
        bad(x, "safe(0, 5)", s -> s.safe(0, 5));
        bad(x, "safe(0, -1)", s -> s.safe(0, -1));
        bad(x, "safe(0, least)", s -> s.safe(0, LEAST));
        bad(x, "safe(0, most)", s -> s.safe(0, MOST));
        due("count(1) behind these", x.count(1), 4);
    }

    private static void holdersAsTheyCome() {
        SafeShares x = new SafeShares();
        for (int h = 0; h < 6; h++) {
            int next = h;
            bad(x, "of(" + h + ", 0) ahead of it", s -> s.of(next, 0));
            due("holder(" + (5 - h) + ", " + h + ")", x.holder(5 - h, h), h);
            due("count(0)", x.count(0), h + 1);
        }
        for (int h = 0; h < 6; h++) {
            due("of(" + h + ", 0)", x.of(h, 0), 5 - h);
            due("of(" + h + ", 1)", x.of(h, 1), h);
        }
    }

    private static void kindAndN() {
        SafeShares x = new SafeShares();
        due("holder(0, 0)", x.holder(0, 0), 0);
        due("holder(5, 96)", x.holder(5, 96), 1);
        due("of(1, 0)", x.of(1, 0), 5);
        due("of(1, 1)", x.of(1, 1), 96);
        bad(x, "holder(-1, 0)", s -> s.holder(-1, 0));
        bad(x, "holder(6, 0)", s -> s.holder(6, 0));
        bad(x, "holder(0, -1)", s -> s.holder(0, -1));
        bad(x, "holder(0, 97)", s -> s.holder(0, 97));
        bad(x, "holder(least, 0)", s -> s.holder(LEAST, 0));
        bad(x, "holder(most, 0)", s -> s.holder(MOST, 0));
        bad(x, "holder(0, least)", s -> s.holder(0, LEAST));
        bad(x, "holder(0, most)", s -> s.holder(0, MOST));
    }

    private static void cOfTheWay() {
        int[] shares = {1, 1 + 2, 1 + 2 + 4, 1 + 2 + 4 + 8};
        for (int enough = 1; enough <= 4; enough++) {
            SafeShares x = with(made(1, enough, 1, 1, 1), 0, 0, 0, 0);
            due("of(1, 2) by ENOUGH " + enough, x.of(1, 2), shares[enough - 1]);
        }
    }

    private static void cTold() {
        SafeShares x = with(made(0, 4), 0, 0);
        for (int i = 1; i <= 3; i++) {
            due("way(" + i + ", 96)", x.way(i, 96), 0);
            due("way(" + i + ", 0)", x.way(i, 0), 96);
            int power = i;
            bad(x, "way(" + i + ", -1)", s -> s.way(power, -1));
            bad(x, "way(" + i + ", 97)", s -> s.way(power, 97));
        }
        bad(x, "way(1, least)", s -> s.way(1, LEAST));
        bad(x, "way(1, most)", s -> s.way(1, MOST));
    }

    private static void points() {
        SafeShares x = trueOnes(6);
        due("of(0, 2): f(1)", x.of(0, 2), 59);
        due("of(5, 2): f(6)", x.of(5, 2), 47);
    }

    private static void nobodyAtFirst() {
        SafeShares x = new SafeShares();
        int[] counts = {0, 2, 0, 0, 0, 0, 0, 0};
        for (int what = 0; what < counts.length; what++) {
            due("count(" + what + ")", x.count(what), counts[what]);
        }
        due("part(0)", x.part(0), 0);
        due("part(1)", x.part(1), 1);
        for (int what = 0; what < 3; what++) {
            due("status(" + what + ")", x.status(what), 0);
        }
        due("clear()", x.clear(), 0);
        due("forget()", x.forget(), 0);
        refused(x, NO, -3, "undo()", s -> s.undo());
        refused(x, NO, -3, "from(0)", s -> s.from(0));
        refused(x, NO, -3, "from(1)", s -> s.from(1));
    }

    private static void safeTakesAll() {
        SafeShares x = with(alwaysWrong(), 0, 0, 0, 0, 0, 0, 0, 0, 0, 0);
        x.way(1, 1);
        x.way(2, 2);
        x.way(3, 3);
        tellAll(x, 1, 2, 3, 4, 5, 6);
        pass(x, 3, 1);
        due("count(4) ahead of it", x.count(4), 1);
        due("safe(96, 4) with six", x.safe(96, 4), 6);
        due("digest()", x.digest(), digestOf(0, 4, 0, 0, 0, 0, 0, 0, 96, 0, 0, 0, -1, -1, -1, -1, -1, -1, 0, 1));
        refused(x, NO, -3, "undo() behind it", s -> s.undo());
        due("safe(0, 1) with nobody", x.safe(0, 1), 0);
        with(x, 2, 1);
        x.day(1);
        x.day(1);
        due("count(3) ahead of it", x.count(3), 2);
        due("safe(0, 1) with one", x.safe(0, 1), 1);
        due("count(3) behind it", x.count(3), 0);
        due("holder(2, 1) behind it", x.holder(2, 1), 0);
    }

    private static void safeLeaves() {
        SafeShares x = trueOnes(3);
        x.image(0);
        x.odds(5);
        put(x, "safe 7 3;");
        x.holder(6, 0);
        x.undo();
        x.from(1);
        pass(with(x, 0, 0, 0, 0, 0, 0), 1, 0);
        x.holder(0, 0);
        x.safe(1, 1);
        due("status(0)", x.status(BAD), 1);
        due("status(1)", x.status(NO), 2);
        due("status(2)", x.status(FULL), 1);
        due("part(0)", x.part(0), 1);
        due("part(1)", x.part(1), 2);
        due("count(7)", x.count(7), 9);
        due("from(0)", x.from(0), 1);
        due("count(0) from the image", x.count(0), 3);
        refused(x, NO, -3, "from(1)", s -> s.from(1));
        x.safe(1, 1);
        due("read()", x.read(), 1);
        due("count(1) by the text", x.count(1), 3);
    }

    private static void safeRefused() {
        SafeShares x = trueOnes(2);
        x.day(1);
        bad(x, "safe(-1, 1)", s -> s.safe(-1, 1));
        bad(x, "safe(97, 1)", s -> s.safe(97, 1));
        bad(x, "safe(least, 1)", s -> s.safe(LEAST, 1));
        bad(x, "safe(most, 1)", s -> s.safe(MOST, 1));
        bad(x, "safe(97, 5)", s -> s.safe(97, 5));
        due("undo() behind these", x.undo(), 0);
        due("safe(96, 1)", x.safe(96, 1), 2);
        due("safe(0, 4)", x.safe(0, 4), 0);
    }

    private static void holderFull() {
        SafeShares x = new SafeShares();
        for (int h = 0; h < 6; h++) {
            due("holder(0, 0)", x.holder(0, 0), h);
        }
        pass(x, 1, 63);
        refused(x, FULL, -4, "holder(0, 0) of a seventh", s -> s.holder(0, 0));
        refused(x, FULL, -4, "holder(5, 96) of an eighth", s -> s.holder(5, 96));
        due("undo() behind a refused holder", x.undo(), 0);
        due("count(0)", x.count(0), 6);
        x.safe(0, 1);
        due("holder(0, 0) behind safe", x.holder(0, 0), 0);
    }

    private static void wayPowers() {
        SafeShares x = with(made(0, 4), 0, 0, 0, 0);
        bad(x, "way(0, 1)", s -> s.way(0, 1));
        bad(x, "way(4, 1)", s -> s.way(4, 1));
        bad(x, "way(-1, 1)", s -> s.way(-1, 1));
        bad(x, "way(least, 1)", s -> s.way(LEAST, 1));
        bad(x, "way(most, 1)", s -> s.way(MOST, 1));
        due("way(1, 1)", x.way(1, 1), 0);
        due("of(1, 2): 2", x.of(1, 2), 2);
        due("way(3, 1)", x.way(3, 1), 0);
        due("of(1, 2): 2 and 8", x.of(1, 2), 10);
        due("way(3, 2)", x.way(3, 2), 1);
        due("way(2, 5) is told, too", x.way(2, 5), 0);
    }

    private static void wayBeyondEnough() {
        SafeShares x = with(made(5, 1), 0, 0);
        due("way(3, 50) by ENOUGH 1", x.way(3, 50), 0);
        due("of(0, 2)", x.of(0, 2), 5);
        due("way(3, 0): what it was", x.way(3, 0), 50);
    }

    private static void typeBytes() {
        SafeShares x = new SafeShares();
        due("type(0)", x.type(0), 1);
        due("type(127)", x.type(127), 2);
        bad(x, "type(-1)", s -> s.type(-1));
        bad(x, "type(128)", s -> s.type(128));
        bad(x, "type(255)", s -> s.type(255));
        bad(x, "type(least)", s -> s.type(LEAST));
        bad(x, "type(most)", s -> s.type(MOST));
        due("count(7)", x.count(7), 2);
        due("type(65)", x.type(65), 3);
    }

    private static void typeFull() {
        SafeShares x = new SafeShares();
        for (int i = 1; i <= 150; i++) {
            due("type(32) of " + i, x.type(32), i);
        }
        refused(x, FULL, -4, "type(32) of a 151st", s -> s.type(32));
        refused(x, FULL, -4, "type(59) of a 152nd", s -> s.type(59));
        due("count(7)", x.count(7), 150);
        due("clear()", x.clear(), 150);
        due("type(32) behind it", x.type(32), 1);
    }

    private static void clearEmpty() {
        SafeShares x = new SafeShares();
        due("clear() of none", x.clear(), 0);
        x.type(65);
        due("clear() of one", x.clear(), 1);
        due("clear() again", x.clear(), 0);
        due("count(7)", x.count(7), 0);
        due("read() behind it", x.read(), -10);
        put(x, "safe 3 2;");
        put(x, "safe 4 1");
        due("read() of what came behind clear", x.read(), -18);
    }

    private static void firstOfBadNoFull() {
        SafeShares x = trueOnes(6);
        bad(x, "holder(6, 0) of a seventh", s -> s.holder(6, 0));
        bad(x, "holder(0, 97) of a seventh", s -> s.holder(0, 97));
        for (int i = 0; i < 150; i++) {
            x.type(32);
        }
        bad(x, "type(128) of a 151st", s -> s.type(128));
        bad(x, "type(-1) of a 151st", s -> s.type(-1));
        bad(x, "mixed(0, 64, 0): none was kept", s -> s.mixed(0, 64, 0));
        bad(x, "mixed(1, 0, -1): none was kept", s -> s.mixed(1, 0, -1));
        bad(x, "mixed(0, 3, 1): none was kept", s -> s.mixed(0, 3, 1));
        refused(x, NO, -3, "mixed(0, 2, 1)", s -> s.mixed(0, 2, 1));
        bad(x, "from(2)", s -> s.from(2));
    }

    private static void manyCalls() {
        SafeShares x = new SafeShares();
        for (int call = 1; call < 511; call++) {
            due("day(0), call " + call, x.day(0), 0);
        }
        due("count(2), call 511", x.count(2), 510);
        due("undo(), call 512", x.undo(), 509);
    }

    public static void main(String[] args) {
        sentence("All numbers are by 97 left over (0 ..", SafeEdgesTest::leftOver);
        sentence("THE NUMBER (0 at first).", SafeEdgesTest::numberAtFirst);
        sentence("ENOUGH (1 .. 4; 2 at first).", SafeEdgesTest::enough);
        sentence("HOLDERS 0 .. 5, as they come", SafeEdgesTest::holdersAsTheyCome);
        sentence("a KIND, n (0 .. 96).", SafeEdgesTest::kindAndN);
        sentence("as many c as ENOUGH less 1", SafeEdgesTest::cOfTheWay);
        sentence("each c is told (0 .. 96; 0 at first).", SafeEdgesTest::cTold);
        sentence("The SHARE of HOLDER h is f(h and 1).", SafeEdgesTest::points);
        sentence("As told; no HOLDERS.", SafeEdgesTest::nobodyAtFirst);
        sentence("THE NUMBER, ENOUGH, all else as at first", SafeEdgesTest::safeTakesAll);
        sentence("(but for IMAGES, THE TEXT, THE FRACTION, STATUS)", SafeEdgesTest::safeLeaves);
        sentence("how many HOLDERS there were. BAD.", SafeEdgesTest::safeRefused);
        sentence("A HOLDER: the number. BAD; FULL: 6.", SafeEdgesTest::holderFull);
        sentence("c of power i (1 .. 3): what it was. BAD.", SafeEdgesTest::wayPowers);
        sentence("c of power i (1 .. 3): what it was.", SafeEdgesTest::wayBeyondEnough);
        sentence("A byte (0 .. 127) comes behind THE TEXT: how many it has.", SafeEdgesTest::typeBytes);
        sentence("THE SAFE is told by a TEXT (150 bytes at most)", SafeEdgesTest::typeFull);
        sentence("THE TEXT is empty: how many it had.", SafeEdgesTest::clearEmpty);
        sentence("Refused, changing nothing but STATUS, the first of: BAD -2 a number is not as told; NO -3 as told;"
                + " FULL -4", SafeEdgesTest::firstOfBadNoFull);
        sentence("An object is used for at most 512 calls after it has been made", SafeEdgesTest::manyCalls);
        end();
    }
}
