import java.util.Arrays;

/**
 * A safe opened by a number of which nobody knows it all: shares lie on a row of ENOUGH numbers,
 * so that any ENOUGH of the holders have the number and fewer know nothing.
 */
public final class SafeShares {
    public static final int NONE = -1, BAD = -2, NO = -3, FULL = -4;

    private static final int OTHER_BAD = -10;
    private static final int FAULT_BASE = -10;
    private static final int MODULUS = 97;
    private static final int HOLDERS_MAX = 6;
    private static final int ENOUGH_MAX = 4;
    private static final int POWERS = 3;
    private static final int KIND_MAX = 5;
    private static final int LAST_DAY = 999;
    private static final int SEED_MAX = 999999;
    private static final int TEXT_MAX = 150;
    private static final int BYTE_MAX = 127;
    private static final int ENVELOPE_DAYS = 10;
    private static final int DAYS_MAX = 60;
    private static final int TENTHS = 10;
    private static final int HUNDRED = 100;
    private static final int COUNTS = 8;

    private static final int LACKING = 0;
    private static final int OPENS = 1;
    private static final int WRONG_TRY = 2;
    private static final int STAYS_SHUT = 3;
    private static final int TRIES_MAX = 3;

    private final Safe now = new Safe();
    private final Safe image0 = new Safe();
    private final Safe image1 = new Safe();
    /** Takes what may not touch the safe itself: a text half read, days only thought of. */
    private final Safe draft = new Safe();
    private final Told row = new Told();
    private final Text text = new Text();
    private boolean kept0 = false;
    private boolean kept1 = false;
    private int badCalls = 0;
    private int noCalls = 0;
    private int fullCalls = 0;
    private long above = 0;
    private long below = 1;

    public SafeShares() {
    }

    // ---- a safe

    public int safe(int number, int enough) {
        if (!isWithin(number, 0, MODULUS - 1) || !isWithin(enough, 1, ENOUGH_MAX)) {
            return refuseBad();
        }
        int before = now.holders;
        now.begin(number, enough);
        return before;
    }

    public int holder(int kind, int n) {
        if (!isWithin(kind, 0, KIND_MAX) || !isWithin(n, 0, MODULUS - 1)) {
            return refuseBad();
        }
        if (now.isFull()) {
            return refuseFull();
        }
        now.addHolder(kind, n);
        now.pastCount = 0;
        return now.holders - 1;
    }

    public int way(int i, int c) {
        if (!isWithin(i, 1, POWERS) || !isWithin(c, 0, MODULUS - 1)) {
            return refuseBad();
        }
        int before = now.factor(i);
        now.putFactor(i, c);
        return before;
    }

    public int type(int c) {
        if (!isWithin(c, 0, BYTE_MAX)) {
            return refuseBad();
        }
        if (text.length >= TEXT_MAX) {
            return refuseFull();
        }
        text.append(c);
        return text.length;
    }

    public int clear() {
        int before = text.length;
        text.length = 0;
        return before;
    }

    public int read() {
        int items = text.parseInto(draft);
        if (items == NONE) {
            return FAULT_BASE - text.tokenStart;
        }
        now.copyFrom(draft);
        return items;
    }

    // ---- days

    public int day(int who) {
        if (!now.hasAll(who)) {
            return refuseBadAs(OTHER_BAD);
        }
        now.remember();
        return now.passDay(who, row);
    }

    public int change(int seed) {
        if (!isWithin(seed, 0, SEED_MAX)) {
            return refuseBad();
        }
        now.remember();
        return now.changeWay(seed);
    }

    public int undo() {
        if (now.pastCount <= 0) {
            return refuseNo();
        }
        now.goBack();
        return now.day;
    }

    public int of(int holder, int what) {
        if (!now.hasHolder(holder) || !isWithin(what, 0, 2)) {
            return refuseBad();
        }
        if (what == 0) {
            return now.kindOf(holder);
        }
        return what == 1 ? now.extraOf(holder) : now.shareOf(holder);
    }

    // ---- shares

    public int tells(int holder, int day, int m) {
        if (!now.hasHolder(holder) || !isDay(day) || !isWithin(m, 1, HOLDERS_MAX)) {
            return refuseBad();
        }
        return now.wordOf(holder, day, m);
    }

    public int finds(int who) {
        if (!now.hasAll(who)) {
            return refuseBad();
        }
        row.empty();
        now.putShares(who, row);
        return row.foundBy(now.enough);
    }

    public int knows(int who) {
        if (!now.hasAll(who)) {
            return refuseBad();
        }
        return Integer.bitCount(who) < now.enough ? MODULUS : 1;
    }

    public int comes(int who, int day) {
        if (!now.hasAll(who) || !isDay(day)) {
            return refuseBadAs(OTHER_BAD);
        }
        return now.outcome(who, day, row);
    }

    // ---- what was told

    public int tell(int point, int n) {
        if (!isWithin(point, 0, HOLDERS_MAX - 1) || !isWithin(n, NONE, MODULUS - 1)) {
            return refuseBad();
        }
        int before = now.told.numberAt(point);
        now.told.put(point, n);
        return before;
    }

    public int forget() {
        int before = now.told.size();
        now.told.empty();
        return before;
    }

    public int agree() {
        if (now.told.size() < now.enough) {
            return NONE;
        }
        return now.told.agreesBy(now.enough) ? 1 : 0;
    }

    public int liars() {
        return now.told.liarBits(now.enough, row);
    }

    public int guess() {
        int liarBits = now.told.liarBits(now.enough, row);
        if (liarBits == NONE) {
            return NONE;
        }
        row.copyWithout(now.told, liarBits);
        return row.foundBy(now.enough);
    }

    public int mixed(int i, int old, int fresh) {
        if (!isImage(i) || !now.hasAll(old) || !now.hasAll(fresh) || (old & fresh) != 0) {
            return refuseBad();
        }
        if (!isKept(i)) {
            return refuseNo();
        }
        row.empty();
        imageAt(i).putShares(old, row);
        now.putShares(fresh, row);
        return row.foundBy(now.enough);
    }

    // ---- how many

    public int odds(int o) {
        if (!isWithin(o, 0, TENTHS)) {
            return refuseBad();
        }
        long parts = partsWithAtLeast(now.enough, now.holders, o);
        long whole = power(TENTHS, now.holders);
        long common = commonDivisor(parts, whole);
        if (common <= 0) {
            return 1;
        }
        above = parts / common;
        below = whole / common;
        return 1;
    }

    public int best(int o, int c) {
        if (!isWithin(o, 0, TENTHS) || !isWithin(c, 0, TENTHS)) {
            return refuseBad();
        }
        int bestEnough = 1;
        long most = 0;
        for (int enough = 1; enough <= ENOUGH_MAX; enough++) {
            long gain = partsWithAtLeast(enough, now.holders, o)
                    - partsWithAtLeast(enough, now.holders, c);
            if (enough == 1 || gain >= most) {
                bestEnough = enough;
                most = gain;
            }
        }
        return bestEnough;
    }

    public int must(int day) {
        if (!isDay(day)) {
            return refuseBad();
        }
        int all = now.everyone();
        if (now.outcome(all, day, row) != OPENS) {
            return 0;
        }
        int needed = 0;
        for (int h = 0; h < HOLDERS_MAX; h++) {
            if (now.hasHolder(h) && now.outcome(all & ~(1 << h), day, row) != OPENS) {
                needed |= 1 << h;
            }
        }
        return needed;
    }

    public int cars(int first, int what) {
        if (!now.hasAll(first) || !isWithin(what, 0, 1)) {
            return refuseBad();
        }
        if (what == 0) {
            return isSafeParting(first) ? 1 : 0;
        }
        int partings = 0;
        for (int bits = 0; bits <= now.everyone(); bits++) {
            if (isSafeParting(bits)) {
                partings++;
            }
        }
        return partings;
    }

    public int envelope(int d, int what) {
        if (!isWithin(d, 0, LAST_DAY + 1 - ENVELOPE_DAYS) || !isWithin(what, 0, 1)) {
            return refuseBad();
        }
        int which = NONE;
        int most = NONE;
        for (int h = 0; h < HOLDERS_MAX; h++) {
            int opened = now.hasHolder(h) ? envelopeDays(h, d) : NONE;
            if (opened > most) {
                which = h;
                most = opened;
            }
        }
        return what == 0 ? which : most;
    }

    public int days(int seed, int n, int w) {
        if (!isWithin(seed, 0, SEED_MAX) || !isWithin(n, 0, DAYS_MAX) || !isWithin(w, 0, HUNDRED)) {
            return refuseBad();
        }
        draft.copyFrom(now);
        long x = seed;
        int opened = 0;
        for (int passed = 0; passed < n; passed++) {
            int who = 0;
            for (int h = 0; h < draft.holders; h++) {
                x = nextX(x);
                if (drawn(x, HUNDRED) < w) {
                    who |= 1 << h;
                }
            }
            if (draft.passDay(who, row) == OPENS) {
                opened++;
            }
        }
        return opened;
    }

    // ---- what there is

    public long part(int what) {
        if (!isWithin(what, 0, 1)) {
            return refuseBad();
        }
        return what == 0 ? above : below;
    }

    public int image(int i) {
        if (!isImage(i)) {
            return refuseBad();
        }
        imageAt(i).copyFrom(now);
        if (i == 0) {
            kept0 = true;
        } else {
            kept1 = true;
        }
        return 1;
    }

    public int from(int i) {
        if (!isImage(i)) {
            return refuseBad();
        }
        if (!isKept(i)) {
            return refuseNo();
        }
        now.copyFrom(imageAt(i));
        return 1;
    }

    public int status(int what) {
        switch (what) {
            case 0:
                return badCalls;
            case 1:
                return noCalls;
            case 2:
                return fullCalls;
            default:
                return refuseBadAs(NONE);
        }
    }

    public int count(int what) {
        return isWithin(what, 0, COUNTS - 1) ? amount(what) : refuseBad();
    }

    public long digest() {
        long h = 1063;
        for (int what = 0; what < COUNTS; what++) {
            h = 31 * h + amount(what);
        }
        h = now.mixInto(h);
        h = 31 * h + above;
        return 31 * h + below;
    }

    // ---- within

    private int refuseBad() {
        return refuseBadAs(BAD);
    }

    private int refuseBadAs(int answer) {
        badCalls++;
        return answer;
    }

    private int refuseNo() {
        noCalls++;
        return NO;
    }

    private int refuseFull() {
        fullCalls++;
        return FULL;
    }

    private int amount(int what) {
        switch (what) {
            case 0:
                return now.holders;
            case 1:
                return now.enough;
            case 2:
                return now.day;
            case 3:
                return now.tries;
            case 4:
                return now.shut ? 1 : 0;
            case 5:
                return now.told.size();
            case 6:
                return now.pastCount;
            default:
                return text.length;
        }
    }

    private Safe imageAt(int i) {
        return i == 0 ? image0 : image1;
    }

    private boolean isKept(int i) {
        return i == 0 ? kept0 : kept1;
    }

    private boolean isSafeParting(int first) {
        int inFirst = Integer.bitCount(first);
        return inFirst >= now.enough && now.holders - inFirst >= now.enough;
    }

    private int envelopeDays(int away, int firstDay) {
        int opened = 0;
        for (int later = 0; later < ENVELOPE_DAYS; later++) {
            now.collect(now.everyone() & ~(1 << away), firstDay + later, row);
            row.put(away, now.shareOf(away));
            if (row.foundBy(now.enough) == now.number) {
                opened++;
            }
        }
        return opened;
    }

    private static boolean isWithin(int value, int least, int most) {
        return value >= least && value <= most;
    }

    private static boolean isDay(int day) {
        return isWithin(day, 0, LAST_DAY);
    }

    private static boolean isImage(int i) {
        return isWithin(i, 0, 1);
    }

    private static boolean isIn(int bits, int h) {
        return (bits >> h & 1) == 1;
    }

    private static int leftOver(int value) {
        int rest = value % MODULUS;
        return rest < 0 ? rest + MODULUS : rest;
    }

    private static long nextX(long x) {
        return (x * 1103515245L + 12345L) % 2147483648L;
    }

    /** Never asked with a bound below 1; the test keeps the division safe all the same. */
    private static int drawn(long x, int bound) {
        return bound < 1 ? 0 : (int) (x / 65536L % bound);
    }

    private static long power(int base, int exponent) {
        long product = 1;
        for (int i = 0; i < exponent; i++) {
            product *= base;
        }
        return product;
    }

    /** Of 10 to the holders equal chances, those by which so many or more come, each by tenths of 10. */
    private static long partsWithAtLeast(int enough, int holders, int tenths) {
        long parts = 0;
        for (int bits = 0; bits < 1 << holders; bits++) {
            int present = Integer.bitCount(bits);
            if (present >= enough) {
                parts += power(tenths, present) * power(TENTHS - tenths, holders - present);
            }
        }
        return parts;
    }

    private static long commonDivisor(long first, long second) {
        long a = first;
        long b = second;
        for (int step = 0; step < 100 && b != 0; step++) {
            long rest = a % b;
            a = b;
            b = rest;
        }
        return a;
    }

    /** Numbers told at points 0 .. 5, NONE where nothing is told; point p lies at p and 1. */
    private static final class Told {
        /** What 1 .. 5, the only distances of two points, are turned round by 97. */
        private static final int[] INVERSES = {0, 1, 49, 65, 73, 39};

        private final int[] numbers = new int[HOLDERS_MAX];

        Told() {
            Arrays.fill(numbers, NONE);
        }

        void empty() {
            Arrays.fill(numbers, NONE);
        }

        void put(int point, int n) {
            if (point >= 0 && point < numbers.length) {
                numbers[point] = n;
            }
        }

        int numberAt(int point) {
            return point >= 0 && point < numbers.length ? numbers[point] : NONE;
        }

        int size() {
            return Integer.bitCount(bits());
        }

        void copyWithout(Told other, int left) {
            for (int p = 0; p < numbers.length; p++) {
                numbers[p] = isIn(left, p) ? NONE : other.numberAt(p);
            }
        }

        /** NONE if fewer than ENOUGH are told. */
        int foundBy(int enough) {
            int first = firstBits(enough);
            return first == NONE ? NONE : valueAt(first, 0);
        }

        boolean agreesBy(int enough) {
            int first = firstBits(enough);
            if (first == NONE) {
                return false;
            }
            for (int p = 0; p < numbers.length; p++) {
                if (numbers[p] != NONE && numbers[p] != valueAt(first, p + 1)) {
                    return false;
                }
            }
            return true;
        }

        /** Sets go upwards, so of like ones the least stays. */
        int liarBits(int enough, Told rest) {
            int all = bits();
            int liarBits = NONE;
            for (int out = 0; out <= all; out++) {
                boolean fewer = liarBits == NONE || Integer.bitCount(out) < Integer.bitCount(liarBits);
                if (fewer && (out & ~all) == 0 && Integer.bitCount(all & ~out) > enough) {
                    rest.copyWithout(this, out);
                    if (rest.agreesBy(enough)) {
                        liarBits = out;
                    }
                }
            }
            return liarBits;
        }

        private int bits() {
            int bits = 0;
            for (int p = 0; p < numbers.length; p++) {
                if (numbers[p] != NONE) {
                    bits |= 1 << p;
                }
            }
            return bits;
        }

        private int firstBits(int enough) {
            int first = 0;
            int taken = 0;
            for (int p = 0; p < numbers.length && taken < enough; p++) {
                if (numbers[p] != NONE) {
                    first |= 1 << p;
                    taken++;
                }
            }
            return taken < enough ? NONE : first;
        }

        /** The value at x of the one row that goes through the points of these bits. */
        private int valueAt(int through, int x) {
            int sum = 0;
            for (int p = 0; p < numbers.length; p++) {
                if (isIn(through, p)) {
                    sum += numbers[p] * weight(through, p, x);
                }
            }
            return leftOver(sum);
        }

        private int weight(int through, int point, int x) {
            int weight = 1;
            for (int p = 0; p < numbers.length; p++) {
                if (p != point && isIn(through, p)) {
                    weight = leftOver(weight * (x - p - 1));
                    weight = leftOver(weight * inverse(point - p));
                }
            }
            return weight;
        }

        private static int inverse(int distance) {
            int size = distance < 0 ? -distance : distance;
            if (size < 0 || size >= INVERSES.length) {
                return 0;
            }
            return distance < 0 ? -INVERSES[size] : INVERSES[size];
        }
    }

    /** All that an image keeps: the number, the way, the holders, the days, what was told, the past. */
    private static final class Safe {
        private static final int FORGETS = 1;
        private static final int WRONG = 2;
        private static final int AFRAID = 3;
        private static final int LATE = 4;
        private static final int SOLD = 5;
        private static final int BRAVE_FROM = 3;
        private static final int PAST_MAX = 8;
        /** A moment of the past: the day, the tries, whether shut, the way. */
        private static final int MOMENT = 3 + POWERS;

        private int number = 0;
        private int enough = 2;
        private int holders = 0;
        private final int[] kinds = new int[HOLDERS_MAX];
        private final int[] extras = new int[HOLDERS_MAX];
        private final int[] factors = new int[POWERS];
        private int day = 0;
        private int tries = 0;
        private boolean shut = false;
        private final Told told = new Told();
        private final int[] past = new int[PAST_MAX * MOMENT];
        private int pastCount = 0;

        void begin(int newNumber, int newEnough) {
            number = newNumber;
            enough = newEnough;
            holders = 0;
            Arrays.fill(factors, 0);
            day = 0;
            tries = 0;
            shut = false;
            told.empty();
            pastCount = 0;
        }

        void copyFrom(Safe other) {
            number = other.number;
            enough = other.enough;
            holders = other.holders;
            System.arraycopy(other.kinds, 0, kinds, 0, HOLDERS_MAX);
            System.arraycopy(other.extras, 0, extras, 0, HOLDERS_MAX);
            System.arraycopy(other.factors, 0, factors, 0, POWERS);
            day = other.day;
            tries = other.tries;
            shut = other.shut;
            told.copyWithout(other.told, 0);
            System.arraycopy(other.past, 0, past, 0, PAST_MAX * MOMENT);
            pastCount = other.pastCount;
        }

        boolean isFull() {
            return holders >= HOLDERS_MAX;
        }

        void addHolder(int kind, int n) {
            if (holders >= 0 && holders < HOLDERS_MAX) {
                kinds[holders] = kind;
                extras[holders] = n;
                holders++;
            }
        }

        boolean hasHolder(int h) {
            return h >= 0 && h < holders;
        }

        boolean hasAll(int bits) {
            return bits >= 0 && bits <= everyone();
        }

        int everyone() {
            return (1 << holders) - 1;
        }

        int kindOf(int h) {
            return h >= 0 && h < kinds.length ? kinds[h] : 0;
        }

        int extraOf(int h) {
            return h >= 0 && h < extras.length ? extras[h] : 0;
        }

        int factor(int power) {
            return power >= 1 && power <= factors.length ? factors[power - 1] : 0;
        }

        void putFactor(int power, int c) {
            if (power >= 1 && power <= factors.length) {
                factors[power - 1] = c;
            }
        }

        int shareOf(int h) {
            int value = 0;
            for (int power = enough - 1; power >= 1; power--) {
                value = leftOver((value + factor(power)) * (h + 1));
            }
            return leftOver(value + number);
        }

        /** What a holder tells on a day if m come; NONE: nothing. */
        int wordOf(int h, int onDay, int m) {
            int share = shareOf(h);
            int n = extraOf(h);
            switch (kindOf(h)) {
                case FORGETS:
                    return isForgotten(n, onDay) ? NONE : share;
                case WRONG:
                    return leftOver(share + n);
                case AFRAID:
                    return m < BRAVE_FROM ? leftOver(share + n) : share;
                case LATE:
                    return isForgotten(n, onDay) || onDay % 2 != 0 ? NONE : share;
                case SOLD:
                    return leftOver(share + n + onDay);
                default:
                    return share;
            }
        }

        void putShares(int who, Told row) {
            for (int h = 0; h < HOLDERS_MAX; h++) {
                if (isIn(who, h)) {
                    row.put(h, shareOf(h));
                }
            }
        }

        /** The row holds what these holders tell and nothing else. */
        void collect(int who, int onDay, Told row) {
            int m = Integer.bitCount(who);
            for (int h = 0; h < HOLDERS_MAX; h++) {
                row.put(h, isIn(who, h) ? wordOf(h, onDay, m) : NONE);
            }
        }

        int outcome(int who, int onDay, Told row) {
            collect(who, onDay, row);
            int found = row.foundBy(enough);
            if (found == NONE) {
                return LACKING;
            }
            return found == number ? OPENS : WRONG_TRY;
        }

        int passDay(int who, Told row) {
            int result = shut ? STAYS_SHUT : outcome(who, day, row);
            shut = false;
            if (result == OPENS) {
                tries = 0;
            }
            if (result == WRONG_TRY) {
                countWrongTry();
            }
            day++;
            return result;
        }

        int changeWay(int seed) {
            long x = seed;
            for (int power = 1; power < enough; power++) {
                x = nextX(x);
                putFactor(power, leftOver(factor(power) + drawn(x, MODULUS)));
            }
            return enough - 1;
        }

        void remember() {
            if (pastCount >= PAST_MAX) {
                System.arraycopy(past, MOMENT, past, 0, (PAST_MAX - 1) * MOMENT);
                pastCount = PAST_MAX - 1;
            }
            int at = pastCount * MOMENT;
            if (at >= 0 && at + MOMENT <= past.length) {
                past[at] = day;
                past[at + 1] = tries;
                past[at + 2] = shut ? 1 : 0;
                System.arraycopy(factors, 0, past, at + 3, POWERS);
                pastCount++;
            }
        }

        void goBack() {
            int at = (pastCount - 1) * MOMENT;
            if (at >= 0 && at + MOMENT <= past.length) {
                day = past[at];
                tries = past[at + 1];
                shut = past[at + 2] == 1;
                System.arraycopy(past, at + 3, factors, 0, POWERS);
                pastCount--;
            }
        }

        long mixInto(long start) {
            long h = 31 * start + number;
            for (int power = 1; power <= POWERS; power++) {
                h = 31 * h + factor(power);
            }
            for (int holder = 0; holder < holders; holder++) {
                h = 31 * h + kindOf(holder);
                h = 31 * h + extraOf(holder);
            }
            for (int point = 0; point < HOLDERS_MAX; point++) {
                h = 31 * h + told.numberAt(point);
            }
            return h;
        }

        private void countWrongTry() {
            tries++;
            if (tries >= TRIES_MAX) {
                tries = 0;
                shut = true;
            }
        }

        private static boolean isForgotten(int n, int onDay) {
            int every = Math.floorMod(n, 5) + 2;
            return every > 0 && onDay % every == 0;
        }
    }

    /** The text, and a reader of it that stops at the first token that can not stand where it is. */
    private static final class Text {
        private static final int END = 0;
        private static final int WORD = 1;
        private static final int NUMBER = 2;
        private static final int STOP = 3;
        private static final int STRANGE = 4;
        private static final int FIGURES_MAX = 2;

        private final byte[] bytes = new byte[TEXT_MAX];
        private int length = 0;
        private int tokenStart = 0;
        private int tokenEnd = 0;
        private int token = END;

        void append(int c) {
            if (length >= 0 && length < bytes.length) {
                bytes[length] = (byte) c;
                length++;
            }
        }

        /** How many items, or NONE: the fault is then at tokenStart, the length at an early end. */
        int parseInto(Safe safe) {
            tokenEnd = 0;
            if (!readSafeItem(safe)) {
                return NONE;
            }
            int items = 1;
            nextToken();
            for (int i = 0; i < TEXT_MAX && token != END; i++) {
                if (!readOtherItem(safe)) {
                    return NONE;
                }
                items++;
                nextToken();
            }
            return items;
        }

        private boolean readSafeItem(Safe safe) {
            nextToken();
            if (!isWord("safe")) {
                return false;
            }
            int number = nextNumber(0, MODULUS - 1);
            if (number == NONE) {
                return false;
            }
            int enough = nextNumber(1, ENOUGH_MAX);
            if (enough == NONE) {
                return false;
            }
            safe.begin(number, enough);
            return nextIsStop();
        }

        private boolean readOtherItem(Safe safe) {
            if (isWord("way")) {
                return readWay(safe);
            }
            return isWord("holder") && !safe.isFull() && readHolder(safe);
        }

        private boolean readWay(Safe safe) {
            int power = nextNumber(1, POWERS);
            if (power == NONE) {
                return false;
            }
            int c = nextNumber(0, MODULUS - 1);
            if (c == NONE) {
                return false;
            }
            safe.putFactor(power, c);
            return nextIsStop();
        }

        private boolean readHolder(Safe safe) {
            int kind = nextNumber(0, KIND_MAX);
            if (kind == NONE) {
                return false;
            }
            int n = nextNumber(0, MODULUS - 1);
            if (n == NONE) {
                return false;
            }
            safe.addHolder(kind, n);
            return nextIsStop();
        }

        private boolean nextIsStop() {
            nextToken();
            return token == STOP;
        }

        /** NONE if the next token is no number from least to most. */
        private int nextNumber(int least, int most) {
            nextToken();
            if (token != NUMBER || tokenEnd - tokenStart > FIGURES_MAX) {
                return NONE;
            }
            int value = 0;
            for (int place = tokenStart; place < tokenEnd; place++) {
                value = value * 10 + byteAt(place) - '0';
            }
            return isWithin(value, least, most) ? value : NONE;
        }

        private boolean isWord(String word) {
            if (token != WORD || tokenEnd - tokenStart != word.length()) {
                return false;
            }
            for (int i = 0; i < word.length(); i++) {
                if (byteAt(tokenStart + i) != word.charAt(i)) {
                    return false;
                }
            }
            return true;
        }

        private void nextToken() {
            int start = tokenEnd;
            while (start < length && byteAt(start) == ' ') {
                start++;
            }
            token = start < length ? tokenBegunBy(byteAt(start)) : END;
            tokenStart = start;
            int end = token == END ? start : start + 1;
            while (end < length && isLong(token) && tokenBegunBy(byteAt(end)) == token) {
                end++;
            }
            tokenEnd = end;
        }

        private int byteAt(int place) {
            return place >= 0 && place < bytes.length ? bytes[place] : 0;
        }

        private static boolean isLong(int token) {
            return token == WORD || token == NUMBER;
        }

        private static int tokenBegunBy(int c) {
            if (c >= 'a' && c <= 'z') {
                return WORD;
            }
            if (c >= '0' && c <= '9') {
                return NUMBER;
            }
            return c == ';' ? STOP : STRANGE;
        }
    }
}
