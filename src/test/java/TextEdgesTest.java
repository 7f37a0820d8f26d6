/** Boundary cases of a safe told by a text: where each fault lies, and what a read safe leaves. */
public final class TextEdgesTest extends Checks {
    private static final String SIX = "safe 1 1;holder 0 0;holder 0 0;holder 0 0;holder 0 0;holder 0 0;holder 0 0;";

    private TextEdgesTest() {
    }

    /** So many items are read. */
    private static SafeShares items(String text, int want) {
        SafeShares x = new SafeShares();
        put(x, text);
        due("read() of '" + text + "'", x.read(), want);
        return x;
    }

    /** A fault at a place; all stays, and it counts as no refused call. */
    private static void fault(String text, int place) {
        SafeShares x = with(made(33, 3, 1, 2), 2, 4);
        x.tell(1, 9);
        x.day(1);
        put(x, text);
        asks(x, "read() of '" + text + "'", s -> s.read(), -10 - place);
        due("undo() behind the fault", x.undo(), 0);
        due("count(1) behind the fault", x.count(1), 3);
    }

    private static void itemsEnded() {
        items("safe 1 1;", 1);
        items("safe 1 1;way 1 1;holder 1 1;", 3);
        fault("safe 1 1", 8);
        fault("safe 1 1 way 1 1;", 9);
        fault("safe 1 1;way 1 1", 16);
        fault("safe 1 1;way 1 1 way 1 1;", 17);
        fault("safe 1 1;;", 9);
        fault("safe 1 1; ;", 10);
        fault("safe 1;", 6);
        fault("safe ;", 5);
        fault("safe;", 4);
        fault(";", 0);
        fault("safe 1 1;way;", 12);
        fault("safe 1 1;way 1;", 14);
        fault("safe 1 1;holder;", 15);
        fault("safe 1 1;holder 1;", 17);
    }

    private static void safeNumbers() {
        due("count(1)", items("safe 0 1;", 1).count(1), 1);
        SafeShares most = items("safe 96 4;", 1);
        due("digest()", most.digest(), digestOf(0, 4, 0, 0, 0, 0, 0, 10, 96, 0, 0, 0, -1, -1, -1, -1, -1, -1, 0, 1));
        fault("safe 97 1;", 5);
        fault("safe 99 1;", 5);
        fault("safe 1 0;", 7);
        fault("safe 1 5;", 7);
        fault("safe 1 10;", 7);
        fault("safe 1 1 1;", 9);
    }

    private static void wayNumbers() {
        SafeShares x = items("safe 5 4;way 1 96;way 2 1;way 3 0;way 3 7;", 5);
        due("way(1, 0)", x.way(1, 0), 96);
        due("way(2, 0)", x.way(2, 0), 1);
        due("way(3, 0): the last told", x.way(3, 0), 7);
        due("way(3, 0) beyond ENOUGH", items("safe 5 1;way 3 9;", 2).way(3, 0), 9);
        fault("safe 1 1;way 0 1;", 13);
        fault("safe 1 1;way 4 1;", 13);
        fault("safe 1 1;way 13 1;", 13);
        fault("safe 1 1;way 1 97;", 15);
        fault("safe 1 1;way 1 1 1;", 17);
    }

    private static void holderNumbers() {
        SafeShares x = items("safe 5 4;holder 0 96;holder 5 0;", 3);
        due("of(0, 0)", x.of(0, 0), 0);
        due("of(0, 1)", x.of(0, 1), 96);
        due("of(1, 0)", x.of(1, 0), 5);
        due("of(1, 1)", x.of(1, 1), 0);
        fault("safe 1 1;holder 6 1;", 16);
        fault("safe 1 1;holder 10 1;", 16);
        fault("safe 1 1;holder 5 97;", 18);
        fault("safe 1 1;holder 5 1 1;", 20);
    }

    private static void letters() {
        fault("Safe 1 1;", 0);
        fault("safE 1 1;", 0);
        fault("saf`e 1 1;", 0);
        fault("safe` 1 1;", 4);
        fault("safe{1 1;", 4);
        fault("`safe 1 1;", 0);
        fault("{safe 1 1;", 0);
        fault("safe Z 1;", 5);
        fault("safe a 1;", 5);
        fault("safe z 1;", 5);
        fault("safe 1 1;a", 9);
        fault("safe 1 1;z", 9);
        fault("safea 1 1;", 0);
        fault("safez 1 1;", 0);
    }

    private static void figures() {
        due("finds(1)", with(items("safe 9 1;", 1), 0, 0).finds(1), 9);
        due("finds(1)", with(items("safe 09 1;", 1), 0, 0).finds(1), 9);
        due("finds(1)", with(items("safe 90 01;", 1), 0, 0).finds(1), 90);
        due("finds(1)", with(items("safe 00 1;", 1), 0, 0).finds(1), 0);
        due("count(1)", items("safe 0 04;", 1).count(1), 4);
        fault("safe 00 00;", 8);
        fault("safe / 1;", 5);
        fault("safe : 1;", 5);
        fault("safe 1/1;", 6);
        fault("safe 1:1;", 6);
        fault("safe -1;", 5);
        fault("safe +1 1;", 5);
        fault("safe 1.1;", 6);
    }

    private static void blanks() {
        items("   safe   1   1   ;   way   1   1   ;   ", 2);
        items("safe1 1;way1 1;holder1 1;", 3);
        due("finds(1): two figures are one number", with(items("safe 12 1;", 1), 0, 0).finds(1), 12);
        fault("safe 12;", 7);
        fault("sa fe 1 1;", 0);
        fault("safe 1 1;ho lder 1 1;", 9);
        fault("safe\t1 1;", 4);
        fault("safe\n1 1;", 4);
        fault("safe\u001f1 1;", 4);
        fault("safe!1 1;", 4);
        fault("safe 1 1;\n", 9);
        fault("safe 1 1; \u0000", 10);
    }

    private static void wordThatIsNone() {
        fault("sesame 1 1;", 0);
        fault("xafe 1 1;", 0);
        fault("sxfe 1 1;", 0);
        fault("safx 1 1;", 0);
        fault("safe 1 1;bay 1 1;", 9);
        fault("safe 1 1;bolder 1 1;", 9);
        fault("s", 0);
        fault("saf", 0);
        fault("safes 1 1;", 0);
        fault("safe 1 1;ways 1 1;", 9);
        fault("safe 1 1;wa 1 1;", 9);
        fault("safe 1 1;holde 1 1;", 9);
        fault("safe 1 1;holders 1 1;", 9);
        fault("safe 1 1;  wax 1 1;", 11);
        fault("safe 1 1;way 1 1;w", 17);
        fault("safe one 1;", 5);
        fault("safe way 1 1;", 5);
    }

    private static void safeAgain() {
        fault("safe 1 1;safe 1 1;", 9);
        fault("safe 1 1;way 1 1; safe", 18);
        fault("safe safe 1 1;", 5);
        fault("safe 1 safe;", 7);
        fault("safe 1 1 safe;", 9);
    }

    private static void aheadOfSafe() {
        fault("way 1 1;safe 1 1;", 0);
        fault("holder 1 1;safe 1 1;", 0);
        fault(" holder 1 1;", 1);
        fault(";safe 1 1;", 0);
        fault("1 safe 1 1;", 0);
        fault("1 1;", 0);
        fault("  7", 2);
    }

    private static void seventhHolder() {
        due("count(0)", items(SIX, 7).count(0), 6);
        items(SIX + "way 1 1;", 8);
        fault(SIX + "holder 0 0;", 75);
        fault(SIX + " holder", 76);
        fault(SIX + "holder 9 9;", 75);
        fault(SIX + "holde", 75);
        fault(SIX.replace("1;", "1;way 1 1;") + "holder 0 0;", 83);
    }

    private static void seventhHolderByTheText() {
        SafeShares x = trueOnes(6);
        put(x, SIX);
        due("read() with six holders there", x.read(), 7);
        due("read() again", x.read(), 7);
        due("count(0)", x.count(0), 6);
    }

    private static void thirdFigure() {
        fault("safe 001 1;", 5);
        fault("safe 000 1;", 5);
        fault("safe 123 1;", 5);
        fault("safe 1 001;", 7);
        fault("safe 1234567890123456789012345678901234567890 1;", 5);
        fault("safe 1 1;way 001 1;", 13);
        fault("safe 1 1;way 1 001;", 15);
        fault("safe 1 1;holder 001 1;", 16);
        fault("safe 1 1;holder 1 001;", 18);
        fault("safe 1 1 001;", 9);
        fault("safe 1 1;001", 9);
        fault("safe 100", 5);
    }

    private static void numberNotAsTold() {
        fault("safe 97", 5);
        fault("safe 97 5;", 5);
        fault("safe 96 5", 8);
        fault("safe 1 4;way 0", 13);
        fault("safe 1 4;way 3 97", 15);
        fault("safe 1 4;holder 6", 16);
        fault("safe 1 4;holder 5 97", 18);
        fault("safe 1 1;1 1;", 9);
        fault("safe x 1;", 5);
        fault("safe 1 x;", 7);
    }

    private static void bytesThatBeginNone() {
        for (int c = 0; c < 128; c++) {
            boolean begins = c >= 'a' && c <= 'z' || c >= '0' && c <= '9' || c == ';' || c == ' ';
            if (!begins) {
                fault("safe 1 1;" + (char) c, 9);
                fault("safe 1 1" + (char) c + ";", 8);
                fault((char) c + "safe 1 1;", 0);
            }
        }
    }

    private static void endsTooEarly() {
        String text = "safe 96 4 ; way 3 1;";
        int[] places = {0, 0, 0, 0, 4, 5, 6, 7, 8, 9, 10, -1, -1, 12, 12, 15, 16, 17, 18, 19, -2};
        for (int length = 0; length <= text.length(); length++) {
            int place = places[length];
            if (place < 0) {
                items(text.substring(0, length), -place);
            } else {
                fault(text.substring(0, length), place);
            }
        }
    }

    private static void endsTooEarlyBehindAWord() {
        fault("safe 1 1;way", 12);
        fault("safe 1 1;holder", 15);
        fault("safe 1 1;holder ", 16);
        fault("safe 1 1;holder 1", 17);
        fault("safe 1 1;holder 1 1", 19);
    }

    private static void emptyText() {
        fault("", 0);
        fault(" ", 1);
        fault(" ".repeat(149), 149);
        fault(" ".repeat(150), 150);
    }

    /** What was typed ahead of clear is no part of a shorter text. */
    private static void endsAheadOfOldBytes() {
        String[] old = {"safe 1 12;", "safe 96 4;way 1 1;", " ".repeat(150), "safe".repeat(30), "1".repeat(150)};
        String[] texts = {"safe 1 1", "saf", "safe", "safe ", "safe 9", "safe 1 1;"};
        int[] answers = {-18, -10, -14, -15, -16, 1};
        for (String before : old) {
            for (int i = 0; i < texts.length; i++) {
                SafeShares x = new SafeShares();
                put(x, before);
                put(x, texts[i]);
                due("read() of '" + texts[i] + "' behind '" + before + "'", x.read(), answers[i]);
            }
        }
    }

    private static void longestText() {
        items(" ".repeat(141) + "safe 1 1;", 1);
        items("safe 1 1;" + " ".repeat(141), 1);
        fault(" ".repeat(142) + "safe 1 1", 150);
        fault("safe 1 1;" + " ".repeat(140) + ";", 149);
        items("safe1 1;" + "way1 1;".repeat(20) + "  ", 21);
        fault("safe1 1;" + "way1 1;".repeat(20) + "wa", 148);
    }

    private static void readTakesAll() {
        SafeShares x = with(alwaysWrong(), 0, 0, 0, 0, 0, 0, 0, 0, 0, 0);
        x.way(1, 1);
        x.way(2, 2);
        x.way(3, 3);
        tellAll(x, 0, 1, 2, 3, 4, 5);
        pass(x, 3, 1);
        put(x, "safe 96 3;");
        due("count(4) ahead of it", x.count(4), 1);
        due("read()", x.read(), 1);
        due("digest()", x.digest(), digestOf(0, 3, 0, 0, 0, 0, 0, 10, 96, 0, 0, 0, -1, -1, -1, -1, -1, -1, 0, 1));
        refused(x, NO, -3, "undo()", s -> s.undo());
        due("day(0) behind shut", x.day(0), 0);
        x.safe(5, 1);
        with(x, 2, 1);
        pass(x, 2, 1);
        due("count(3) ahead of it", x.count(3), 2);
        x.read();
        due("count(3) behind it", x.count(3), 0);
        due("count(2) behind it", x.count(2), 0);
    }

    private static void readLeaves() {
        SafeShares x = trueOnes(2);
        x.image(1);
        x.odds(5);
        x.type(128);
        x.undo();
        for (int i = 0; i < 5; i++) {
            x.holder(0, 0);
        }
        put(x, "safe 1 1;");
        x.read();
        due("count(7)", x.count(7), 9);
        due("part(0)", x.part(0), 1);
        due("part(1)", x.part(1), 4);
        due("status(0)", x.status(BAD), 1);
        due("status(1)", x.status(NO), 1);
        due("status(2)", x.status(FULL), 1);
        due("from(1)", x.from(1), 1);
        due("count(0) from the image", x.count(0), 2);
        refused(x, NO, -3, "from(0)", s -> s.from(0));
        due("read() again", x.read(), 1);
        x.type(';');
        due("read() of more", x.read(), -19);
    }

    private static void faultLeavesAll() {
        SafeShares x = with(made(33, 3, 1, 2, 3), 2, 4, 0, 0);
        x.image(0);
        x.tell(5, 9);
        pass(x, 9, 0);
        x.odds(9);
        put(x, "safe 1 1;way 1 50;holder 5 5;holder 5 97;");
        asks(x, "read()", s -> s.read(), -48);
        due("of(0, 0)", x.of(0, 0), 2);
        due("of(0, 2)", x.of(0, 2), 36);
        for (int day = 8; day >= 1; day--) {
            due("undo()", x.undo(), day);
        }
        due("from(0)", x.from(0), 1);
        due("count(2)", x.count(2), 0);
    }

    public static void main(String[] args) {
        sentence("of ITEMS, each ended by ;", TextEdgesTest::itemsEnded);
        sentence("safe NUMBER ENOUGH (once, first of all)", TextEdgesTest::safeNumbers);
        sentence("way i c (c of power i, 1 .. 3)", TextEdgesTest::wayNumbers);
        sentence("holder KIND n.", TextEdgesTest::holderNumbers);
        sentence("words of letters a .. z", TextEdgesTest::letters);
        sentence("figures (1 or 2 are one number)", TextEdgesTest::figures);
        sentence("blanks (32) between", TextEdgesTest::blanks);
        sentence("(a word that is none", TextEdgesTest::wordThatIsNone);
        sentence("safe again", TextEdgesTest::safeAgain);
        sentence("anything ahead of it", TextEdgesTest::aheadOfSafe);
        sentence("a 7th holder at its word", TextEdgesTest::seventhHolder);
        sentence("a 7th holder at its word", TextEdgesTest::seventhHolderByTheText);
        sentence("a third figure's number", TextEdgesTest::thirdFigure);
        sentence("a number not as told", TextEdgesTest::numberNotAsTold);
        sentence("a byte that begins none, too)", TextEdgesTest::bytesThatBeginNone);
        sentence("the TEXT's length, if it ends too early", TextEdgesTest::endsTooEarly);
        sentence("the TEXT's length, if it ends too early", TextEdgesTest::endsTooEarlyBehindAWord);
        sentence("THE TEXT is empty: how many it had.", TextEdgesTest::endsAheadOfOldBytes);
        sentence("(an empty one, too)", TextEdgesTest::emptyText);
        sentence("TEXT (150 bytes at most)", TextEdgesTest::longestText);
        sentence("(DAY 0, TOLD none, TRIES 0, not SHUT; nothing to undo)", TextEdgesTest::readTakesAll);
        sentence("takes the place of all but IMAGES, THE TEXT, THE FRACTION, STATUS", TextEdgesTest::readLeaves);
        sentence("THE SAFE is read: how many ITEMS. -10 less the FAULT: all stays.", TextEdgesTest::faultLeavesAll);
        end();
    }
}
