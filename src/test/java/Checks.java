import java.io.IOException;
import java.io.UncheckedIOException;
import java.nio.file.Files;
import java.nio.file.Path;
import java.util.function.ToLongFunction;

/** What the tests share: answers beside those that are due, refused calls, safes soon made. */
abstract class Checks {
    static final int BAD = 0, NO = 1, FULL = 2;
    private static final String DOCUMENT = document();
    private static int wrong = 0;
    private static int sentences = 0;
    private static String at = "";

    private static String document() {
        try {
            return Files.readString(Path.of("../shared/DOC.md")).replaceAll("\\s+", " ");
        } catch (IOException e) {
            throw new UncheckedIOException(e);
        }
    }

    /** What the rows printed from now on are about. */
    static void about(String what) {
        at = what;
    }

    /** A boundary case by the document's own words, which must stand there still. */
    static void sentence(String words, Runnable test) {
        sentences++;
        about("'" + words + "'");
        if (!DOCUMENT.contains(words)) {
            fail("these words do not stand in the document");
        }
        test.run();
    }

    static void fail(String what) {
        wrong++;
        System.out.println(at + ": " + what);
    }

    static void due(String call, long got, long want) {
        if (got != want) {
            fail(call + " answered " + got + ", due is " + want);
        }
    }

    /** A refused call answers as told, counts once by its reason and changes nothing else. */
    static void refused(SafeShares x, int reason, long answer, String call, ToLongFunction<SafeShares> made) {
        long digest = x.digest();
        int[] before = {x.status(BAD), x.status(NO), x.status(FULL)};
        due(call, made.applyAsLong(x), answer);
        due(call + ": digest behind it", x.digest(), digest);
        for (int r = 0; r < before.length; r++) {
            due(call + ": status " + r, x.status(r), before[r] + (r == reason ? 1 : 0));
        }
    }

    static void bad(SafeShares x, String call, ToLongFunction<SafeShares> made) {
        refused(x, BAD, -2, call, made);
    }

    /** A call that only asks: nothing is changed, and none of its answers counts as refused. */
    static void asks(SafeShares x, String call, ToLongFunction<SafeShares> made, long answer) {
        refused(x, -1, answer, call, made);
    }

    static long digestOf(long... values) {
        long h = 1063;
        for (long v : values) {
            h = 31 * h + v;
        }
        return h;
    }

    /** A safe with c of powers 1 and so on, and nobody. */
    static SafeShares made(int number, int enough, int... way) {
        SafeShares x = new SafeShares();
        x.safe(number, enough);
        for (int i = 0; i < way.length; i++) {
            x.way(i + 1, way[i]);
        }
        return x;
    }

    /** Holders come, each told as KIND, n. */
    static SafeShares with(SafeShares x, int... kindsAndNumbers) {
        for (int i = 0; i + 1 < kindsAndNumbers.length; i += 2) {
            x.holder(kindsAndNumbers[i], kindsAndNumbers[i + 1]);
        }
        return x;
    }

    /** Shares 59 76 93 13 30 47 of 42 and 17 x, all told truly. */
    static SafeShares trueOnes(int holders) {
        return with(made(42, 2, 17), new int[2 * holders]);
    }

    /** One holder, alone enough, who is wrong by 1. */
    static SafeShares alwaysWrong() {
        return with(made(5, 1), 2, 1);
    }

    /** So many days on which these come. */
    static void pass(SafeShares x, int days, int who) {
        for (int d = 0; d < days; d++) {
            x.day(who);
        }
    }

    static void put(SafeShares x, String text) {
        x.clear();
        for (int i = 0; i < text.length(); i++) {
            x.type(text.charAt(i));
        }
    }

    /** What is told from point 0 on; -1 is none. */
    static void tellAll(SafeShares x, int... numbers) {
        for (int p = 0; p < numbers.length; p++) {
            x.tell(p, numbers[p]);
        }
    }

    static void end() {
        if (sentences > 0) {
            System.out.println(sentences + " sentences of the document were looked at");
        }
        System.out.println(wrong == 0 ? "all answers are as due" : wrong + " answers are not as due");
        if (wrong != 0) {
            System.exit(1);
        }
    }
}
