/** Every promise of the document by answers worked out by hand: ordinary inputs, edges, wrong inputs. */
public final class PromisesTest extends Checks {
    private PromisesTest() {
    }

    private static void reads(String text, int want) {
        SafeShares x = new SafeShares();
        put(x, text);
        long digest = x.digest();
        due("read of '" + text + "'", x.read(), want);
        if (want < 0) {
            due("digest behind the fault in '" + text + "'", x.digest(), digest);
            due("status behind the fault in '" + text + "'", x.status(BAD) + x.status(NO) + x.status(FULL), 0);
        }
    }

    private static void newObject() {
        SafeShares x = new SafeShares();
        int[] counts = {0, 2, 0, 0, 0, 0, 0, 0};
        for (int what = 0; what < counts.length; what++) {
            due("count(" + what + ")", x.count(what), counts[what]);
        }
        due("part(0)", x.part(0), 0);
        due("part(1)", x.part(1), 1);
        due("status(0)", x.status(0), 0);
        due("status(1)", x.status(1), 0);
        due("status(2)", x.status(2), 0);
        due("digest()", x.digest(), digestOf(0, 2, 0, 0, 0, 0, 0, 0, 0, 0, 0, 0, -1, -1, -1, -1, -1, -1, 0, 1));
        due("NONE", SafeShares.NONE, -1);
        due("BAD", SafeShares.BAD, -2);
        due("NO", SafeShares.NO, -3);
        due("FULL", SafeShares.FULL, -4);
        SafeShares other = new SafeShares();
        other.safe(9, 3);
        due("count(1) of the first", x.count(1), 2);
    }

    private static void safe() {
        SafeShares x = trueOnes(3);
        x.tell(2, 7);
        x.day(3);
        x.change(4);
        x.odds(10);
        put(x, "ab");
        x.image(1);
        x.type(128);
        due("safe(96, 4)", x.safe(96, 4), 3);
        due("digest()", x.digest(), digestOf(0, 4, 0, 0, 0, 0, 0, 2, 96, 0, 0, 0, -1, -1, -1, -1, -1, -1, 1, 1));
        due("status(0)", x.status(0), 1);
        due("from(1)", x.from(1), 1);
        due("count(0)", x.count(0), 3);
        due("safe(0, 1)", x.safe(0, 1), 3);
        due("safe(0, 1)", x.safe(0, 1), 0);
        bad(x, "safe(-1, 1)", s -> s.safe(-1, 1));
        bad(x, "safe(97, 1)", s -> s.safe(97, 1));
        bad(x, "safe(0, 0)", s -> s.safe(0, 0));
        bad(x, "safe(0, 5)", s -> s.safe(0, 5));
        bad(x, "safe(least, most)", s -> s.safe(Integer.MIN_VALUE, Integer.MAX_VALUE));
        SafeShares shut = new SafeShares();
        shut.safe(5, 1);
        shut.holder(2, 1);
        shut.day(1);
        shut.day(1);
        shut.day(1);
        shut.safe(5, 1);
        due("count(4) behind safe", shut.count(4), 0);
        shut.holder(2, 1);
        shut.day(1);
        shut.safe(5, 1);
        due("count(3) behind safe", shut.count(3), 0);
    }

    private static void holder() {
        SafeShares x = new SafeShares();
        for (int h = 0; h < 6; h++) {
            due("holder(" + h + ", 96)", x.holder(h, 96), h);
        }
        refused(x, FULL, -4, "holder(0, 0)", s -> s.holder(0, 0));
        bad(x, "holder(6, 0) of a seventh", s -> s.holder(6, 0));
        bad(x, "holder(0, 97) of a seventh", s -> s.holder(0, 97));
        SafeShares y = new SafeShares();
        bad(y, "holder(-1, 0)", s -> s.holder(-1, 0));
        bad(y, "holder(6, 0)", s -> s.holder(6, 0));
        bad(y, "holder(0, -1)", s -> s.holder(0, -1));
        bad(y, "holder(0, 97)", s -> s.holder(0, 97));
        y.day(0);
        y.change(1);
        due("count(6)", y.count(6), 2);
        y.holder(0, 0);
        due("count(6) behind a holder", y.count(6), 0);
        due("count(2) behind a holder", y.count(2), 1);
    }

    private static void way() {
        SafeShares x = new SafeShares();
        x.safe(1, 4);
        x.holder(0, 0);
        x.holder(0, 0);
        due("way(1, 96)", x.way(1, 96), 0);
        due("way(1, 2)", x.way(1, 2), 96);
        due("way(2, 3)", x.way(2, 3), 0);
        due("way(3, 4)", x.way(3, 4), 0);
        due("of(1, 2)", x.of(1, 2), 1 + 2 * 2 + 3 * 4 + 4 * 8);
        due("way(3, 0)", x.way(3, 0), 4);
        bad(x, "way(0, 0)", s -> s.way(0, 0));
        bad(x, "way(4, 0)", s -> s.way(4, 0));
        bad(x, "way(-1, 0)", s -> s.way(-1, 0));
        bad(x, "way(1, -1)", s -> s.way(1, -1));
        bad(x, "way(1, 97)", s -> s.way(1, 97));
        SafeShares unused = new SafeShares();
        unused.safe(5, 1);
        unused.holder(0, 0);
        due("way(1, 50) with enough 1", unused.way(1, 50), 0);
        due("of(0, 2) with enough 1", unused.of(0, 2), 5);
        due("way(1, 0) with enough 1", unused.way(1, 0), 50);
    }

    private static void typeAndClear() {
        SafeShares x = new SafeShares();
        about("promise 6");
        due("clear()", x.clear(), 0);
        about("promise 5");
        due("type(0)", x.type(0), 1);
        due("type(127)", x.type(127), 2);
        bad(x, "type(-1)", s -> s.type(-1));
        bad(x, "type(128)", s -> s.type(128));
        for (int i = 3; i <= 150; i++) {
            due("type(32)", x.type(32), i);
        }
        refused(x, FULL, -4, "type(32) of a 151st", s -> s.type(32));
        bad(x, "type(128) of a 151st", s -> s.type(128));
        about("promise 6");
        due("clear()", x.clear(), 150);
        due("count(7)", x.count(7), 0);
        due("clear()", x.clear(), 0);
        due("type(32)", x.type(32), 1);
    }

    private static void read() {
        SafeShares x = trueOnes(2);
        x.tell(0, 3);
        x.day(3);
        x.odds(5);
        x.image(0);
        x.type(200);
        put(x, "  safe 96 4;way 1 20 ;way 3 5;way 1 01; holder 5 96;holder 00 0;  ");
        due("read()", x.read(), 6);
        due("digest()", x.digest(), digestOf(2, 4, 0, 0, 0, 0, 0, 66, 96, 1, 0, 5, 5, 96, 0, 0,
                -1, -1, -1, -1, -1, -1, 1, 4));
        due("status(0)", x.status(0), 1);
        due("count(7)", x.count(7), 66);
        due("read() again", x.read(), 6);
        x.from(0);
        due("count(2) from the image", x.count(2), 1);
        readFaults();
    }

    private static void readFaults() {
        reads("safe 0 1;", 1);
        reads("safe0 1;holder0 0;", 2);
        reads("safe 1 1;way 1 0;", 2);
        reads("xafe 1 1;", -10);
        reads("safez 1 1;", -10);
        reads("safe 1 1;holder 0 0;holder 0 0;holder 0 0;holder 0 0;holder 0 0;holder 0 0;", 7);
        reads("safe 1 1;holder 0 0;holder 0 0;holder 0 0;holder 0 0;holder 0 0;holder 0 0;holder 0 0;", -10 - 75);
        reads("safe 1 1;holder 0 0;holder 0 0;holder 0 0;holder 0 0;holder 0 0;holder 0 0; way 1 1;", 8);
        reads("", -10);
        reads(" ", -11);
        reads("   ", -13);
        reads("safe", -14);
        reads("safe ", -15);
        reads("safe 1", -16);
        reads("safe 1 1", -18);
        reads("safe 1 1 ", -19);
        reads("safe 1 1;way", -22);
        reads("safe 1 1;holder 0", -27);
        reads("sa", -10);
        reads("safes 1 1;", -10);
        reads(" Safe 1 1;", -11);
        reads("saFe 1 1;", -10);
        reads("safe\t1 1;", -14);
        reads(";", -10);
        reads("1", -10);
        reads("way 1 1;safe 1 1;", -10);
        reads("holder 0 0;", -10);
        reads("safe safe;", -15);
        reads("safe ;", -15);
        reads("safe 97 1;", -15);
        reads("safe 96 0;", -18);
        reads("safe 96 5;", -18);
        reads("safe 001 1;", -15);
        reads("safe 1 001;", -17);
        reads("safe 1 1 1;", -19);
        reads("safe 1 1;;", -19);
        reads("safe 1 1;safe 1 1;", -19);
        reads("safe 1 1; wa 1 1;", -20);
        reads("safe 1 1;way 0 1;", -23);
        reads("safe 1 1;way 4 1;", -23);
        reads("safe 1 1;way 3 97;", -25);
        reads("safe 1 1;way 3 96 holder;", -28);
        reads("safe 1 1;holder 6 1;", -26);
        reads("safe 1 1;holder 5 97;", -28);
        reads("safe 1 1;holder 5 9-;", -29);
        reads("safe 1 1;holder 5 96a", -30);
        reads("safe 1 1;\u007f", -19);
    }

    private static void day() {
        SafeShares x = trueOnes(2);
        x.holder(2, 25);
        due("day(1)", x.day(1), 0);
        due("day(5)", x.day(5), 2);
        due("day(5)", x.day(5), 2);
        due("count(3)", x.count(3), 2);
        due("day(1)", x.day(1), 0);
        due("count(3) behind a lacking day", x.count(3), 2);
        due("day(7)", x.day(7), 1);
        due("count(3) behind an opening", x.count(3), 0);
        due("count(2)", x.count(2), 5);
        due("day(6)", x.day(6), 2);
        due("day(6)", x.day(6), 2);
        due("count(4)", x.count(4), 0);
        due("day(6)", x.day(6), 2);
        due("count(4) behind three", x.count(4), 1);
        due("count(3) behind three", x.count(3), 0);
        refused(x, BAD, -10, "day(8)", s -> s.day(8));
        refused(x, BAD, -10, "day(-1)", s -> s.day(-1));
        due("day(3) while shut", x.day(3), 3);
        due("count(2) behind shut", x.count(2), 9);
        due("count(4) behind shut", x.count(4), 0);
        due("day(3)", x.day(3), 1);
        due("day(0)", x.day(0), 0);
        byKindsOfTheDay();
    }

    private static void byKindsOfTheDay() {
        SafeShares x = new SafeShares();
        x.safe(10, 1);
        x.holder(3, 4);
        x.holder(1, 0);
        x.holder(1, 0);
        due("day(1): one afraid alone", x.day(1), 2);
        due("day(3): one of two", x.day(3), 2);
        due("day(7): three come, two forget", x.day(7), 1);
        due("day(6): odd", x.day(6), 1);
        due("day(6): even", x.day(6), 0);
    }

    private static void change() {
        SafeShares x = new SafeShares();
        x.safe(9, 4);
        x.way(1, 96);
        x.way(3, 96);
        x.holder(0, 0);
        long a = (7L * 1103515245L + 12345L) % 2147483648L;
        long b = (a * 1103515245L + 12345L) % 2147483648L;
        long c = (b * 1103515245L + 12345L) % 2147483648L;
        due("change(7)", x.change(7), 3);
        due("way(1, 0)", x.way(1, 0), (96 + a / 65536) % 97);
        due("way(2, 0)", x.way(2, 0), b / 65536 % 97);
        due("way(3, 0)", x.way(3, 0), (96 + c / 65536) % 97);
        due("count(6)", x.count(6), 1);
        due("count(2)", x.count(2), 0);
        due("change(0)", x.change(0), 3);
        due("way(1, 0)", x.way(1, 0), 0);
        due("change(999999)", x.change(999999), 3);
        bad(x, "change(-1)", s -> s.change(-1));
        bad(x, "change(1000000)", s -> s.change(1000000));
        x.safe(9, 2);
        x.way(2, 5);
        due("change(7) of enough 2", x.change(7), 1);
        due("way(2, 0) beyond the way", x.way(2, 0), 5);
        x.safe(9, 1);
        due("change(7) of enough 1", x.change(7), 0);
        due("way(1, 0) beyond the way", x.way(1, 0), 0);
        SafeShares y = trueOnes(3);
        y.change(123);
        due("finds(6) behind a change", y.finds(6), 42);
    }

    private static void undo() {
        SafeShares x = trueOnes(1);
        x.holder(2, 1);
        refused(x, NO, -3, "undo()", s -> s.undo());
        x.day(3);
        x.day(3);
        x.day(3);
        due("count(4)", x.count(4), 1);
        x.day(3);
        x.change(1);
        x.tell(0, 8);
        due("count(6)", x.count(6), 5);
        due("undo() of a change", x.undo(), 4);
        due("of(0, 2)", x.of(0, 2), 59);
        due("undo() of a shut day", x.undo(), 3);
        due("count(4)", x.count(4), 1);
        due("undo()", x.undo(), 2);
        due("count(4)", x.count(4), 0);
        due("count(3)", x.count(3), 2);
        due("undo()", x.undo(), 1);
        due("count(3)", x.count(3), 1);
        x.way(1, 3);
        due("undo()", x.undo(), 0);
        due("way as ahead of the day", x.way(1, 3), 17);
        due("tell(0, -1): not undone", x.tell(0, -1), 8);
        refused(x, NO, -3, "undo()", s -> s.undo());
        for (int i = 0; i < 10; i++) {
            x.day(0);
        }
        due("count(6) at most", x.count(6), 8);
        for (int i = 9; i >= 2; i--) {
            due("undo()", x.undo(), i);
        }
        refused(x, NO, -3, "undo()", s -> s.undo());
    }

    private static void of() {
        SafeShares x = trueOnes(4);
        x.holder(5, 96);
        due("of(4, 0)", x.of(4, 0), 5);
        due("of(4, 1)", x.of(4, 1), 96);
        due("of(4, 2)", x.of(4, 2), 30);
        due("of(3, 2)", x.of(3, 2), 13);
        due("of(0, 0)", x.of(0, 0), 0);
        bad(x, "of(5, 0)", s -> s.of(5, 0));
        bad(x, "of(-1, 0)", s -> s.of(-1, 0));
        bad(x, "of(0, -1)", s -> s.of(0, -1));
        bad(x, "of(0, 3)", s -> s.of(0, 3));
    }

    private static void tells() {
        SafeShares x = trueOnes(1);
        x.holder(1, 8);
        x.holder(2, 25);
        x.holder(3, 96);
        x.holder(4, 1);
        x.holder(5, 60);
        due("true", x.tells(0, 999, 6), 59);
        due("forgets on 0", x.tells(1, 0, 1), -1);
        due("forgets not on 1", x.tells(1, 1, 1), 76);
        due("forgets on 995", x.tells(1, 995, 1), -1);
        due("wrong", x.tells(2, 3, 4), 21);
        due("afraid of 1", x.tells(3, 3, 1), 12);
        due("afraid of 2", x.tells(3, 3, 2), 12);
        due("afraid of 3", x.tells(3, 3, 3), 13);
        due("late on 1", x.tells(4, 1, 3), -1);
        due("late on 2", x.tells(4, 2, 3), 30);
        due("late on 6", x.tells(4, 6, 3), -1);
        due("sold on 0", x.tells(5, 0, 3), 10);
        due("sold on 999", x.tells(5, 999, 3), (47 + 60 + 999) % 97);
        bad(x, "tells(6, 0, 1)", s -> s.tells(6, 0, 1));
        bad(x, "tells(-1, 0, 1)", s -> s.tells(-1, 0, 1));
        bad(x, "tells(0, -1, 1)", s -> s.tells(0, -1, 1));
        bad(x, "tells(0, 1000, 1)", s -> s.tells(0, 1000, 1));
        bad(x, "tells(0, 0, 0)", s -> s.tells(0, 0, 0));
        bad(x, "tells(0, 0, 7)", s -> s.tells(0, 0, 7));
    }

    private static void findsAndKnows() {
        for (int enough = 1; enough <= 4; enough++) {
            SafeShares x = new SafeShares();
            x.safe(71, enough);
            x.way(1, 96);
            x.way(2, 33);
            x.way(3, 58);
            for (int h = 0; h < 6; h++) {
                x.holder(h, 50);
            }
            for (int who = 0; who < 64; who++) {
                boolean few = Integer.bitCount(who) < enough;
                about("promise 13");
                due("finds(" + who + ") of enough " + enough, x.finds(who), few ? -1 : 71);
                about("promise 14");
                due("knows(" + who + ") of enough " + enough, x.knows(who), few ? 97 : 1);
            }
        }
        SafeShares y = trueOnes(2);
        about("promise 13");
        bad(y, "finds(4)", s -> s.finds(4));
        bad(y, "finds(-1)", s -> s.finds(-1));
        about("promise 14");
        bad(y, "knows(4)", s -> s.knows(4));
        bad(y, "knows(-1)", s -> s.knows(-1));
    }

    private static void comes() {
        SafeShares x = trueOnes(2);
        x.holder(2, 25);
        x.holder(1, 0);
        due("comes(9, 0)", x.comes(9, 0), 0);
        due("comes(9, 1)", x.comes(9, 1), 1);
        due("comes(12, 1)", x.comes(12, 1), 2);
        due("comes(15, 999)", x.comes(15, 999), 1);
        for (int i = 0; i < 3; i++) {
            x.day(6);
        }
        due("count(4)", x.count(4), 1);
        long digest = x.digest();
        due("comes(3, 3) while shut", x.comes(3, 3), 1);
        due("comes(6, 3) while shut", x.comes(6, 3), 2);
        due("digest() behind comes", x.digest(), digest);
        refused(x, BAD, -10, "comes(16, 0)", s -> s.comes(16, 0));
        refused(x, BAD, -10, "comes(-1, 0)", s -> s.comes(-1, 0));
        refused(x, BAD, -10, "comes(0, -1)", s -> s.comes(0, -1));
        refused(x, BAD, -10, "comes(0, 1000)", s -> s.comes(0, 1000));
    }

    private static void tellAndForget() {
        SafeShares x = new SafeShares();
        about("promise 16");
        due("tell(0, 0)", x.tell(0, 0), -1);
        due("tell(5, 96)", x.tell(5, 96), -1);
        due("tell(5, 3)", x.tell(5, 3), 96);
        due("count(5)", x.count(5), 2);
        due("tell(5, -1)", x.tell(5, -1), 3);
        due("tell(0, -1)", x.tell(0, -1), 0);
        due("count(5)", x.count(5), 0);
        bad(x, "tell(-1, 0)", s -> s.tell(-1, 0));
        bad(x, "tell(6, 0)", s -> s.tell(6, 0));
        bad(x, "tell(0, -2)", s -> s.tell(0, -2));
        bad(x, "tell(0, 97)", s -> s.tell(0, 97));
        about("promise 17");
        due("forget()", x.forget(), 0);
        x.tell(1, 1);
        x.tell(2, 2);
        x.tell(1, 3);
        due("forget()", x.forget(), 2);
        due("forget()", x.forget(), 0);
        due("tell(1, 1)", x.tell(1, 1), -1);
    }

    private static void agreeLiarsGuess() {
        SafeShares x = new SafeShares();
        x.tell(1, 76);
        threeOf(x, "one told", -1, -1, -1);
        x.tell(4, 30);
        threeOf(x, "two told", 1, -1, -1);
        x.tell(3, 13);
        threeOf(x, "three that agree", 1, 0, 42);
        x.tell(5, 48);
        threeOf(x, "a fourth apart", 0, 32, 42);
        x.tell(0, 60);
        threeOf(x, "two apart", 0, 33, 42);
        x.tell(2, 94);
        threeOf(x, "two rows of three each", 0, 26, 43);
        int[] fourAndThree = {1, 2, 3, 4, 6, 8};
        for (int p = 0; p < 6; p++) {
            x.tell(p, fourAndThree[p]);
        }
        threeOf(x, "a row of four and one of three", 0, 48, 0);
        x.forget();
        x.tell(0, 1);
        x.tell(1, 2);
        x.tell(2, 4);
        threeOf(x, "three that do not agree", 0, -1, -1);
        x.tell(3, 9);
        threeOf(x, "none agree", 0, -1, -1);
        x.safe(0, 3);
        int[] cubes = {1, 8, 27, 64};
        for (int p = 0; p < 4; p++) {
            x.tell(p, cubes[p]);
        }
        threeOf(x, "cubes by enough 3", 0, -1, -1);
        x.safe(0, 4);
        for (int p = 0; p < 4; p++) {
            x.tell(p, cubes[p]);
        }
        threeOf(x, "cubes by enough 4", 1, -1, -1);
        x.tell(5, 216 % 97);
        threeOf(x, "five cubes", 1, 0, 0);
        x.tell(4, 0);
        threeOf(x, "a sixth apart", 0, 16, 0);
    }

    private static void threeOf(SafeShares x, String state, long agree, long liars, long guess) {
        long digest = x.digest();
        about("promise 18");
        due("agree() with " + state, x.agree(), agree);
        about("promise 19");
        due("liars() with " + state, x.liars(), liars);
        about("promise 20");
        due("guess() with " + state, x.guess(), guess);
        due("digest() behind these", x.digest(), digest);
        due("status(0) behind these", x.status(0), 0);
    }

    private static void mixed() {
        SafeShares x = trueOnes(3);
        refused(x, NO, -3, "mixed(0, 0, 0)", s -> s.mixed(0, 0, 0));
        refused(x, NO, -3, "mixed(1, 1, 2)", s -> s.mixed(1, 1, 2));
        x.image(1);
        x.way(1, 20);
        due("mixed(1, 3, 0)", x.mixed(1, 3, 0), 42);
        due("mixed(1, 0, 3)", x.mixed(1, 0, 3), 42);
        due("mixed(1, 1, 2): 59 at 1, 82 at 2", x.mixed(1, 1, 2), 36);
        due("mixed(1, 2, 1): 62 at 1, 76 at 2", x.mixed(1, 2, 1), 48);
        due("mixed(1, 1, 6): the first two", x.mixed(1, 1, 6), 36);
        due("mixed(1, 0, 4)", x.mixed(1, 0, 4), -1);
        due("mixed(1, 0, 0)", x.mixed(1, 0, 0), -1);
        bad(x, "mixed(-1, 0, 0)", s -> s.mixed(-1, 0, 0));
        bad(x, "mixed(2, 0, 0)", s -> s.mixed(2, 0, 0));
        bad(x, "mixed(1, 8, 0)", s -> s.mixed(1, 8, 0));
        bad(x, "mixed(1, 0, 8)", s -> s.mixed(1, 0, 8));
        bad(x, "mixed(1, -1, 0)", s -> s.mixed(1, -1, 0));
        bad(x, "mixed(1, 3, 2)", s -> s.mixed(1, 3, 2));
        bad(x, "mixed(0, 3, 2): first of all bad", s -> s.mixed(0, 3, 2));
        x.safe(7, 1);
        x.holder(0, 0);
        x.holder(0, 0);
        due("mixed(1, 2, 0): enough as now, share as then", x.mixed(1, 2, 0), 76);
        due("mixed(1, 2, 1)", x.mixed(1, 2, 1), 7);
    }

    private static void odds() {
        SafeShares x = trueOnes(6);
        due("odds(5)", x.odds(5), 1);
        due("part(0)", x.part(0), 57);
        due("part(1)", x.part(1), 64);
        due("odds(0)", x.odds(0), 1);
        due("part(0)", x.part(0), 0);
        due("part(1)", x.part(1), 1);
        due("odds(10)", x.odds(10), 1);
        due("part(0)", x.part(0), 1);
        due("part(1)", x.part(1), 1);
        due("odds(1)", x.odds(1), 1);
        due("part(0)", x.part(0), 22853);
        due("part(1)", x.part(1), 200000);
        bad(x, "odds(-1)", s -> s.odds(-1));
        bad(x, "odds(11)", s -> s.odds(11));
        x.safe(1, 3);
        x.holder(0, 0);
        x.holder(0, 0);
        x.odds(10);
        due("part(0) of too few holders", x.part(0), 0);
        due("part(1) of too few holders", x.part(1), 1);
        x.holder(0, 0);
        x.odds(2);
        due("part(0) of all three", x.part(0), 1);
        due("part(1) of all three", x.part(1), 125);
    }

    private static void best() {
        SafeShares x = trueOnes(4);
        x.odds(5);
        due("best(9, 1)", x.best(9, 1), 3);
        due("best(1, 9)", x.best(1, 9), 4);
        due("best(3, 3): all alike", x.best(3, 3), 4);
        due("best(10, 0): all alike", x.best(10, 0), 4);
        due("best(5, 0)", x.best(5, 0), 1);
        due("best(10, 5)", x.best(10, 5), 4);
        due("part(1) stays", x.part(1), 16);
        bad(x, "best(-1, 0)", s -> s.best(-1, 0));
        bad(x, "best(11, 0)", s -> s.best(11, 0));
        bad(x, "best(0, -1)", s -> s.best(0, -1));
        bad(x, "best(0, 11)", s -> s.best(0, 11));
        due("best(10, 0) of two holders", trueOnes(2).best(10, 0), 2);
        due("best(0, 10) of two holders", trueOnes(2).best(0, 10), 4);
    }

    private static void must() {
        SafeShares x = trueOnes(2);
        due("must(0): both", x.must(0), 3);
        x.holder(0, 0);
        due("must(0): nobody of three", x.must(0), 0);
        x.holder(1, 0);
        x.safe(42, 2);
        x.way(1, 17);
        x.holder(0, 0);
        x.holder(1, 0);
        x.holder(0, 0);
        due("must(0): one forgets", x.must(0), 5);
        due("must(1)", x.must(1), 0);
        due("must(999)", x.must(999), 0);
        x.safe(42, 2);
        x.holder(2, 1);
        x.holder(0, 0);
        x.holder(0, 0);
        due("must(0): it does not open with all", x.must(0), 0);
        x.safe(42, 1);
        x.holder(3, 1);
        x.holder(0, 0);
        x.holder(0, 0);
        due("must(0): afraid without a third", x.must(0), 6);
        bad(x, "must(-1)", s -> s.must(-1));
        bad(x, "must(1000)", s -> s.must(1000));
    }

    private static void cars() {
        SafeShares x = trueOnes(5);
        due("cars(3, 0)", x.cars(3, 0), 1);
        due("cars(7, 0)", x.cars(7, 0), 1);
        due("cars(15, 0)", x.cars(15, 0), 0);
        due("cars(16, 0)", x.cars(16, 0), 0);
        due("cars(0, 0)", x.cars(0, 0), 0);
        due("cars(31, 1)", x.cars(31, 1), 20);
        bad(x, "cars(32, 0)", s -> s.cars(32, 0));
        bad(x, "cars(32, 1)", s -> s.cars(32, 1));
        bad(x, "cars(-1, 0)", s -> s.cars(-1, 0));
        bad(x, "cars(0, -1)", s -> s.cars(0, -1));
        bad(x, "cars(0, 2)", s -> s.cars(0, 2));
        due("cars(0, 1) of three", trueOnes(3).cars(0, 1), 0);
        due("cars(0, 1) of six", trueOnes(6).cars(0, 1), 50);
    }

    private static void envelope() {
        SafeShares x = new SafeShares();
        due("envelope(0, 0) of nobody", x.envelope(0, 0), -1);
        due("envelope(0, 1) of nobody", x.envelope(0, 1), -1);
        due("status(0) behind these", x.status(0), 0);
        x.holder(0, 0);
        due("envelope(0, 0) of too few", x.envelope(0, 0), 0);
        due("envelope(0, 1) of too few", x.envelope(0, 1), 0);
        x.holder(1, 1);
        due("envelope(0, 0): the forgetting one stays", x.envelope(0, 0), 1);
        due("envelope(0, 1)", x.envelope(0, 1), 10);
        x.safe(3, 2);
        x.holder(1, 1);
        x.holder(4, 0);
        due("envelope(1, 0): late ones tell never, forgetting ones on six", x.envelope(1, 0), 1);
        due("envelope(1, 1)", x.envelope(1, 1), 7);
        due("envelope(0, 1)", x.envelope(0, 1), 6);
        due("envelope(990, 1)", x.envelope(990, 1), 6);
        x.safe(3, 1);
        x.holder(2, 1);
        x.holder(3, 1);
        x.holder(0, 0);
        due("envelope(0, 0): the first is the one that tells", x.envelope(0, 0), 0);
        due("envelope(0, 1)", x.envelope(0, 1), 10);
        x.safe(3, 2);
        x.way(1, 1);
        x.holder(3, 1);
        x.holder(2, 1);
        x.holder(0, 0);
        due("envelope(0, 1): two come, so one is afraid", x.envelope(0, 1), 0);
        due("envelope(0, 0): all alike", x.envelope(0, 0), 0);
        x.safe(3, 1);
        x.holder(5, 90);
        x.holder(0, 0);
        x.holder(0, 0);
        due("envelope(0, 0): the sold one stays", x.envelope(0, 0), 0);
        x.safe(3, 1);
        x.holder(5, 90);
        x.holder(5, 90);
        due("envelope(0, 1): the first stays", x.envelope(0, 1), 10);
        x.safe(3, 2);
        x.holder(0, 0);
        x.holder(5, 90);
        x.holder(5, 1);
        due("envelope(0, 0): the second stays", x.envelope(0, 0), 1);
        x.safe(3, 3);
        x.holder(5, 90);
        x.holder(5, 90);
        x.holder(5, 90);
        due("envelope(7, 0): two wrong by the same undo one another", x.envelope(7, 0), 2);
        due("envelope(7, 1)", x.envelope(7, 1), 10);
        x.safe(3, 2);
        x.holder(5, 90);
        x.holder(5, 90);
        due("envelope(7, 1): sold by nothing on day 7", x.envelope(7, 1), 1);
        due("envelope(0, 1)", x.envelope(0, 1), 1);
        due("envelope(8, 1)", x.envelope(8, 1), 0);
        bad(x, "envelope(-1, 0)", s -> s.envelope(-1, 0));
        bad(x, "envelope(991, 0)", s -> s.envelope(991, 0));
        bad(x, "envelope(0, -1)", s -> s.envelope(0, -1));
        bad(x, "envelope(0, 2)", s -> s.envelope(0, 2));
    }

    private static void days() {
        SafeShares x = trueOnes(2);
        long digest = x.digest();
        due("days(1, 60, 100)", x.days(1, 60, 100), 60);
        due("days(1, 60, 0)", x.days(1, 60, 0), 0);
        due("days(1, 0, 100)", x.days(1, 0, 100), 0);
        due("digest() behind days", x.digest(), digest);
        due("days(77, 40, 60)", x.days(77, 40, 60), pairsDrawn(77, 40, 60));
        due("days(999999, 60, 50)", x.days(999999, 60, 50), pairsDrawn(999999, 60, 50));
        bad(x, "days(-1, 0, 0)", s -> s.days(-1, 0, 0));
        bad(x, "days(1000000, 0, 0)", s -> s.days(1000000, 0, 0));
        bad(x, "days(0, -1, 0)", s -> s.days(0, -1, 0));
        bad(x, "days(0, 61, 0)", s -> s.days(0, 61, 0));
        bad(x, "days(0, 0, -1)", s -> s.days(0, 0, -1));
        bad(x, "days(0, 0, 101)", s -> s.days(0, 0, 101));
        x.safe(3, 1);
        x.holder(5, 94);
        due("days of one sold: right on day 3, shut by then", x.days(0, 10, 100), 0);
        x.day(0);
        due("days of one sold, from day 1: right on day 3", x.days(0, 10, 100), 1);
        due("days of one sold, too few days", x.days(0, 2, 100), 0);
        x.safe(3, 1);
        x.holder(2, 1);
        x.day(1);
        x.day(1);
        x.day(1);
        x.way(1, 1);
        due("count(4)", x.count(4), 1);
        SafeShares y = new SafeShares();
        y.safe(3, 1);
        y.holder(5, 93);
        y.day(1);
        y.day(1);
        y.day(1);
        due("days from shut on, right on day 4", y.days(0, 2, 100), 1);
        y.undo();
        due("days with two tries, wrong on 2, shut on 3, right on 4", y.days(0, 3, 100), 1);
    }

    private static int pairsDrawn(long seed, int days, int w) {
        long x = seed;
        int both = 0;
        for (int d = 0; d < days; d++) {
            int come = 0;
            for (int h = 0; h < 2; h++) {
                x = (x * 1103515245L + 12345L) % 2147483648L;
                come += x / 65536 % 100 < w ? 1 : 0;
            }
            both += come == 2 ? 1 : 0;
        }
        return both;
    }

    private static void part() {
        SafeShares x = trueOnes(3);
        x.odds(5);
        due("part(0)", x.part(0), 1);
        due("part(1)", x.part(1), 2);
        bad(x, "part(-1)", s -> s.part(-1));
        bad(x, "part(2)", s -> s.part(2));
    }

    private static void imageAndFrom() {
        SafeShares x = trueOnes(2);
        about("promise 30");
        refused(x, NO, -3, "from(0)", s -> s.from(0));
        refused(x, NO, -3, "from(1)", s -> s.from(1));
        bad(x, "from(-1)", s -> s.from(-1));
        bad(x, "from(2)", s -> s.from(2));
        about("promise 29");
        bad(x, "image(-1)", s -> s.image(-1));
        bad(x, "image(2)", s -> s.image(2));
        x.tell(4, 4);
        x.day(3);
        x.change(3);
        long digest = x.digest();
        due("image(1)", x.image(1), 1);
        due("digest() behind an image", x.digest(), digest);
        about("promise 30");
        refused(x, NO, -3, "from(0): the other one", s -> s.from(0));
        x.undo();
        x.undo();
        x.forget();
        x.holder(5, 5);
        x.day(7);
        x.safe(1, 1);
        about("promise 29");
        due("image(0)", x.image(0), 1);
        about("promise 30");
        due("from(1)", x.from(1), 1);
        due("digest() from an image", x.digest(), digest);
        due("undo() goes on", x.undo(), 1);
        due("undo() goes on", x.undo(), 0);
        due("of(0, 2)", x.of(0, 2), 59);
        due("from(1) again", x.from(1), 1);
        due("digest() from it again", x.digest(), digest);
        x.odds(10);
        x.type(65);
        due("from(0)", x.from(0), 1);
        due("count(1)", x.count(1), 1);
        due("part(0) stays", x.part(0), 1);
        due("count(7) stays", x.count(7), 1);
        due("status(1) stays", x.status(1), 3);
        imageOfTries();
        about("promise 29");
        x.safe(8, 3);
        due("image(1) over the old one", x.image(1), 1);
        x.safe(0, 1);
        x.from(1);
        due("count(1)", x.count(1), 3);
    }

    private static void imageOfTries() {
        SafeShares x = new SafeShares();
        x.safe(5, 1);
        x.holder(2, 1);
        x.tell(0, 9);
        x.day(1);
        x.day(1);
        x.image(0);
        x.day(1);
        x.image(1);
        x.safe(6, 2);
        for (int d = 0; d < 8; d++) {
            x.day(0);
        }
        x.from(0);
        due("count(3) from an image", x.count(3), 2);
        due("undo() from an image", x.undo(), 1);
        due("count(3) then", x.count(3), 1);
        due("count(4) then", x.count(4), 0);
        x.from(1);
        due("count(4) from an image", x.count(4), 1);
        due("tell(0, 1) from an image", x.tell(0, 1), 9);
        due("day(1) from an image", x.day(1), 3);
        due("undo() from an image", x.undo(), 3);
        due("count(4) then", x.count(4), 1);
    }

    private static void status() {
        SafeShares x = new SafeShares();
        refused(x, BAD, -1, "status(3)", s -> s.status(3));
        refused(x, BAD, -1, "status(-1)", s -> s.status(-1));
        due("status(0)", x.status(0), 2);
        x.undo();
        x.from(0);
        x.from(1);
        due("status(1)", x.status(1), 3);
        for (int h = 0; h < 7; h++) {
            x.holder(0, 0);
        }
        due("status(2)", x.status(2), 1);
        x.agree();
        x.liars();
        x.guess();
        x.finds(0);
        x.read();
        due("status(0) behind answers of none", x.status(0), 2);
        due("status(1) behind answers of none", x.status(1), 3);
    }

    private static void count() {
        SafeShares x = trueOnes(2);
        x.holder(2, 1);
        x.day(4);
        x.day(6);
        x.tell(0, 0);
        x.type(1);
        x.type(1);
        x.type(1);
        int[] counts = {3, 2, 2, 1, 0, 1, 2, 3};
        for (int what = 0; what < counts.length; what++) {
            due("count(" + what + ")", x.count(what), counts[what]);
        }
        bad(x, "count(-1)", s -> s.count(-1));
        bad(x, "count(8)", s -> s.count(8));
    }

    private static void digest() {
        SafeShares x = new SafeShares();
        x.safe(42, 2);
        x.way(1, 17);
        x.way(2, 18);
        x.way(3, 19);
        x.holder(1, 33);
        x.holder(2, 96);
        x.tell(0, 0);
        x.tell(5, 96);
        x.day(2);
        x.day(3);
        x.odds(5);
        x.type(7);
        due("digest()", x.digest(), digestOf(2, 2, 2, 1, 0, 2, 2, 1, 42, 17, 18, 19, 1, 33, 2, 96,
                0, -1, -1, -1, -1, 96, 1, 4));
        due("status(0)", x.status(0), 0);
    }

    public static void main(String[] args) {
        Runnable[] promises = {PromisesTest::newObject, PromisesTest::safe, PromisesTest::holder, PromisesTest::way,
            PromisesTest::typeAndClear, PromisesTest::typeAndClear, PromisesTest::read, PromisesTest::day,
            PromisesTest::change, PromisesTest::undo, PromisesTest::of, PromisesTest::tells,
            PromisesTest::findsAndKnows, PromisesTest::findsAndKnows, PromisesTest::comes,
            PromisesTest::tellAndForget, PromisesTest::tellAndForget, PromisesTest::agreeLiarsGuess,
            PromisesTest::agreeLiarsGuess, PromisesTest::agreeLiarsGuess, PromisesTest::mixed, PromisesTest::odds,
            PromisesTest::best, PromisesTest::must, PromisesTest::cars, PromisesTest::envelope, PromisesTest::days,
            PromisesTest::part, PromisesTest::imageAndFrom, PromisesTest::imageAndFrom, PromisesTest::status,
            PromisesTest::count, PromisesTest::digest};
        for (int i = 0; i < promises.length; i++) {
            about("promise " + (i + 1));
            promises[i].run();
        }
        end();
    }
}
