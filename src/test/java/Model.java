import java.math.BigInteger;
import java.util.ArrayDeque;
import java.util.ArrayList;
import java.util.Deque;
import java.util.List;
import java.util.Map;
import java.util.TreeMap;
import java.util.regex.Matcher;
import java.util.regex.Pattern;

/** A second writing of the document, slow and plain, that shares no code with the class. */
final class Model {
    private record Holder(int kind, int n) {
    }

    private record Moment(int day, int tries, boolean shut, List<Integer> way) {
    }

    private record State(int number, int enough, List<Holder> holders, Moment moment, Map<Integer, Integer> told,
            List<Moment> past) {
    }

    private static final BigInteger TEN = BigInteger.TEN;
    private static final Pattern TOKEN = Pattern.compile("([a-z]+)|([0-9]+)|(;)|(.)", Pattern.DOTALL);

    private int number = 0;
    private int enough = 2;
    private List<Holder> holders = new ArrayList<>();
    private Moment moment = new Moment(0, 0, false, List.of(0, 0, 0));
    private Map<Integer, Integer> told = new TreeMap<>();
    private Deque<Moment> past = new ArrayDeque<>();
    private final State[] images = new State[2];
    private String text = "";
    private BigInteger above = BigInteger.ZERO;
    private BigInteger below = BigInteger.ONE;
    private final int[] status = new int[3];

    private int bad() {
        status[0]++;
        return -2;
    }

    private int bad(int answer) {
        status[0]++;
        return answer;
    }

    private int no() {
        status[1]++;
        return -3;
    }

    private int full() {
        status[2]++;
        return -4;
    }

    private static boolean out(int v, int low, int high) {
        return v < low || v > high;
    }

    private boolean outBits(int bits) {
        return bits < 0 || bits >= Math.pow(2, holders.size());
    }

    private List<Integer> members(int bits) {
        List<Integer> members = new ArrayList<>();
        for (int h = 0; h < 6; h++) {
            if (bits / (1 << h) % 2 == 1) {
                members.add(h);
            }
        }
        return members;
    }

    private static int share(int number, int enough, List<Integer> way, int h) {
        BigInteger sum = BigInteger.valueOf(number);
        for (int i = 1; i < enough; i++) {
            sum = sum.add(BigInteger.valueOf(h + 1).pow(i).multiply(BigInteger.valueOf(way.get(i - 1))));
        }
        return sum.mod(BigInteger.valueOf(97)).intValue();
    }

    private int share(int h) {
        return share(number, enough, moment.way, h);
    }

    private Integer says(int h, int day, int m) {
        return says(holders.get(h).kind, holders.get(h).n, share(h), day, m);
    }

    private static Integer says(int kind, int n, int s, int day, int m) {
        switch (kind) {
            case 0:
                return s;
            case 1:
                return day % (n % 5 + 2) == 0 ? null : says(0, n, s, day, m);
            case 2:
                return (says(0, n, s, day, m) + n) % 97;
            case 3:
                return m < 3 ? says(2, n, s, day, m) : Integer.valueOf(s);
            case 4:
                return day % 2 == 1 ? null : says(1, n, s, day, m);
            default:
                return (says(2, n, s, day, m) + day) % 97;
        }
    }

    /** The coefficients of the row through the first ENOUGH, by elimination; null: too few. */
    private static int[] row(Map<Integer, Integer> points, int enough) {
        if (points.size() < enough) {
            return null;
        }
        List<Integer> first = new ArrayList<>(points.keySet()).subList(0, enough);
        int[][] a = new int[enough][enough + 1];
        for (int r = 0; r < enough; r++) {
            int power = 1;
            for (int c = 0; c < enough; c++) {
                a[r][c] = power;
                power = power * (first.get(r) + 1) % 97;
            }
            a[r][enough] = points.get(first.get(r));
        }
        for (int c = 0; c < enough; c++) {
            int pivot = c;
            while (a[pivot][c] == 0) {
                pivot++;
            }
            int[] swap = a[pivot];
            a[pivot] = a[c];
            a[c] = swap;
            int inverse = BigInteger.valueOf(a[c][c]).modInverse(BigInteger.valueOf(97)).intValue();
            for (int k = 0; k <= enough; k++) {
                a[c][k] = a[c][k] * inverse % 97;
            }
            for (int r = 0; r < enough; r++) {
                int times = a[r][c];
                for (int k = 0; r != c && k <= enough; k++) {
                    a[r][k] = Math.floorMod(a[r][k] - times * a[c][k], 97);
                }
            }
        }
        int[] row = new int[enough];
        for (int r = 0; r < enough; r++) {
            row[r] = a[r][enough];
        }
        return row;
    }

    private int found(Map<Integer, Integer> points) {
        int[] row = row(points, enough);
        return row == null ? -1 : row[0];
    }

    private boolean agrees(Map<Integer, Integer> points) {
        int[] row = row(points, enough);
        for (int p : points.keySet()) {
            int value = 0;
            for (int k = row.length - 1; k >= 0; k--) {
                value = (value * (p + 1) + row[k]) % 97;
            }
            if (value != points.get(p)) {
                return false;
            }
        }
        return true;
    }

    private Map<Integer, Integer> words(int who, int day) {
        Map<Integer, Integer> words = new TreeMap<>();
        List<Integer> members = members(who);
        for (int h : members) {
            Integer word = says(h, day, members.size());
            if (word != null) {
                words.put(h, word);
            }
        }
        return words;
    }

    private int outcome(int who, int day) {
        Map<Integer, Integer> words = words(who, day);
        if (words.size() < enough) {
            return 0;
        }
        return found(words) == number ? 1 : 2;
    }

    private int pass(int who) {
        Moment m = moment;
        if (m.shut) {
            moment = new Moment(m.day + 1, m.tries, false, m.way);
            return 3;
        }
        int outcome = outcome(who, m.day);
        int tries = outcome == 1 ? 0 : outcome == 2 ? m.tries + 1 : m.tries;
        moment = new Moment(m.day + 1, tries == 3 ? 0 : tries, tries == 3, m.way);
        return outcome;
    }

    private void keepMoment() {
        past.addLast(moment);
        if (past.size() > 8) {
            past.removeFirst();
        }
    }

    private static long next(long x) {
        return BigInteger.valueOf(x).multiply(BigInteger.valueOf(1103515245L)).add(BigInteger.valueOf(12345))
                .mod(BigInteger.valueOf(2147483648L)).longValue();
    }

    private State state() {
        return new State(number, enough, new ArrayList<>(holders), moment, new TreeMap<>(told), new ArrayList<>(past));
    }

    private void take(State s) {
        number = s.number;
        enough = s.enough;
        holders = new ArrayList<>(s.holders);
        moment = s.moment;
        told = new TreeMap<>(s.told);
        past = new ArrayDeque<>(s.past);
    }

    public int safe(int newNumber, int newEnough) {
        if (out(newNumber, 0, 96) || out(newEnough, 1, 4)) {
            return bad();
        }
        int before = holders.size();
        take(new State(newNumber, newEnough, List.of(), new Moment(0, 0, false, List.of(0, 0, 0)), Map.of(), List.of()));
        return before;
    }

    public int holder(int kind, int n) {
        if (out(kind, 0, 5) || out(n, 0, 96)) {
            return bad();
        }
        if (holders.size() == 6) {
            return full();
        }
        holders.add(new Holder(kind, n));
        past.clear();
        return holders.size() - 1;
    }

    public int way(int i, int c) {
        if (out(i, 1, 3) || out(c, 0, 96)) {
            return bad();
        }
        List<Integer> way = new ArrayList<>(moment.way);
        int before = way.set(i - 1, c);
        moment = new Moment(moment.day, moment.tries, moment.shut, way);
        return before;
    }

    public int type(int c) {
        if (out(c, 0, 127)) {
            return bad();
        }
        if (text.length() == 150) {
            return full();
        }
        text += (char) c;
        return text.length();
    }

    public int clear() {
        int before = text.length();
        text = "";
        return before;
    }

    /** What each item asks for: its word, then the least and the most of its two numbers. */
    private static final Map<String, int[]> ITEMS = Map.of("safe", new int[] {0, 96, 1, 4},
            "way", new int[] {1, 3, 0, 96}, "holder", new int[] {0, 5, 0, 96});

    public int read() {
        List<String> tokens = new ArrayList<>();
        List<Integer> places = new ArrayList<>();
        Matcher m = TOKEN.matcher(text);
        while (m.find()) {
            if (!m.group().equals(" ")) {
                tokens.add(m.group());
                places.add(m.start());
            }
        }
        int read = 0;
        int holdersRead = 0;
        int[] limits = null;
        List<String> items = new ArrayList<>();
        for (int t = 0; t < tokens.size(); t++, read++) {
            String token = tokens.get(t);
            boolean stands;
            if (t % 4 == 0) {
                limits = ITEMS.get(token);
                stands = limits != null && token.equals("safe") == (t == 0);
                holdersRead += token.equals("holder") ? 1 : 0;
                stands = stands && holdersRead <= 6;
            } else if (t % 4 == 3) {
                stands = token.equals(";");
            } else {
                int at = (t % 4 - 1) * 2;
                stands = token.matches("[0-9]{1,2}")
                        && !out(Integer.parseInt(token), limits[at], limits[at + 1]);
            }
            if (!stands) {
                return -10 - places.get(t);
            }
            items.add(token);
        }
        if (read == 0 || read % 4 != 0) {
            return -10 - text.length();
        }
        build(items);
        return read / 4;
    }

    private void build(List<String> items) {
        for (int t = 0; t < items.size(); t += 4) {
            int first = Integer.parseInt(items.get(t + 1));
            int second = Integer.parseInt(items.get(t + 2));
            switch (items.get(t)) {
                case "safe":
                    safe(first, second);
                    break;
                case "way":
                    way(first, second);
                    break;
                default:
                    holder(first, second);
            }
        }
    }

    public int day(int who) {
        if (outBits(who)) {
            return bad(-10);
        }
        keepMoment();
        return pass(who);
    }

    public int change(int seed) {
        if (out(seed, 0, 999999)) {
            return bad();
        }
        keepMoment();
        List<Integer> way = new ArrayList<>(moment.way);
        long x = seed;
        for (int k = 0; k < enough - 1; k++) {
            x = next(x);
            way.set(k, (int) ((way.get(k) + x / 65536 % 97) % 97));
        }
        moment = new Moment(moment.day, moment.tries, moment.shut, way);
        return enough - 1;
    }

    public int undo() {
        if (past.isEmpty()) {
            return no();
        }
        moment = past.removeLast();
        return moment.day;
    }

    public int of(int holder, int what) {
        if (out(holder, 0, holders.size() - 1) || out(what, 0, 2)) {
            return bad();
        }
        return new int[] {holders.get(holder).kind, holders.get(holder).n, share(holder)}[what];
    }

    public int tells(int holder, int day, int m) {
        if (out(holder, 0, holders.size() - 1) || out(day, 0, 999) || out(m, 1, 6)) {
            return bad();
        }
        Integer word = says(holder, day, m);
        return word == null ? -1 : word;
    }

    public int finds(int who) {
        if (outBits(who)) {
            return bad();
        }
        Map<Integer, Integer> shares = new TreeMap<>();
        members(who).forEach(h -> shares.put(h, share(h)));
        return found(shares);
    }

    public int knows(int who) {
        if (outBits(who)) {
            return bad();
        }
        return members(who).size() < enough ? 97 : 1;
    }

    public int comes(int who, int day) {
        if (outBits(who) || out(day, 0, 999)) {
            return bad(-10);
        }
        return outcome(who, day);
    }

    public int tell(int point, int n) {
        if (out(point, 0, 5) || out(n, -1, 96)) {
            return bad();
        }
        Integer before = n == -1 ? told.remove(point) : told.put(point, n);
        return before == null ? -1 : before;
    }

    public int forget() {
        int before = told.size();
        told.clear();
        return before;
    }

    public int agree() {
        return told.size() < enough ? -1 : agrees(told) ? 1 : 0;
    }

    public int liars() {
        for (int many = 0; many <= 6; many++) {
            for (int bits = 0; bits < 64; bits++) {
                List<Integer> gone = members(bits);
                if (gone.size() == many && told.keySet().containsAll(gone)) {
                    Map<Integer, Integer> rest = new TreeMap<>(told);
                    rest.keySet().removeAll(gone);
                    if (rest.size() >= enough + 1 && agrees(rest)) {
                        return bits;
                    }
                }
            }
        }
        return -1;
    }

    public int guess() {
        int liars = liars();
        if (liars == -1) {
            return -1;
        }
        Map<Integer, Integer> rest = new TreeMap<>(told);
        rest.keySet().removeAll(members(liars));
        return found(rest);
    }

    public int mixed(int i, int old, int fresh) {
        if (out(i, 0, 1) || outBits(old) || outBits(fresh) || members(old).stream().anyMatch(members(fresh)::contains)) {
            return bad();
        }
        State then = images[i];
        if (then == null) {
            return no();
        }
        Map<Integer, Integer> shares = new TreeMap<>();
        members(old).forEach(h -> shares.put(h, share(then.number, then.enough, then.moment.way, h)));
        members(fresh).forEach(h -> shares.put(h, share(h)));
        return found(shares);
    }

    private static BigInteger choose(int n, int k) {
        BigInteger c = BigInteger.ONE;
        for (int j = 0; j < k; j++) {
            c = c.multiply(BigInteger.valueOf(n - j)).divide(BigInteger.valueOf(j + 1));
        }
        return c;
    }

    private BigInteger chance(int atLeast, int o) {
        BigInteger sum = BigInteger.ZERO;
        int n = holders.size();
        for (int k = atLeast; k <= n; k++) {
            sum = sum.add(choose(n, k).multiply(BigInteger.valueOf(o).pow(k))
                    .multiply(BigInteger.valueOf(10 - o).pow(n - k)));
        }
        return sum;
    }

    public int odds(int o) {
        if (out(o, 0, 10)) {
            return bad();
        }
        BigInteger parts = chance(enough, o);
        BigInteger whole = TEN.pow(holders.size());
        above = parts.divide(parts.gcd(whole));
        below = whole.divide(parts.gcd(whole));
        return 1;
    }

    public int best(int o, int c) {
        if (out(o, 0, 10) || out(c, 0, 10)) {
            return bad();
        }
        int best = 4;
        for (int e = 3; e >= 1; e--) {
            BigInteger gain = chance(e, o).subtract(chance(e, c));
            if (gain.compareTo(chance(best, o).subtract(chance(best, c))) > 0) {
                best = e;
            }
        }
        return best;
    }

    public int must(int day) {
        if (out(day, 0, 999)) {
            return bad();
        }
        int all = (int) Math.pow(2, holders.size()) - 1;
        int bits = 0;
        for (int h = 0; h < holders.size() && outcome(all, day) == 1; h++) {
            bits += outcome(all - (1 << h), day) == 1 ? 0 : 1 << h;
        }
        return bits;
    }

    private int parted(int first) {
        int one = members(first).size();
        return Math.min(one, holders.size() - one) >= enough ? 1 : 0;
    }

    public int cars(int first, int what) {
        if (outBits(first) || out(what, 0, 1)) {
            return bad();
        }
        int sum = 0;
        for (int bits = 0; !outBits(bits); bits++) {
            sum += parted(bits);
        }
        return what == 0 ? parted(first) : sum;
    }

    public int envelope(int d, int what) {
        if (out(d, 0, 990) || out(what, 0, 1)) {
            return bad();
        }
        int which = -1;
        int most = -1;
        for (int h = holders.size() - 1; h >= 0; h--) {
            int good = 0;
            for (int day = d; day <= d + 9; day++) {
                int others = 0;
                for (int o = 0; o < holders.size(); o++) {
                    others += o == h ? 0 : 1 << o;
                }
                Map<Integer, Integer> words = words(others, day);
                words.put(h, share(h));
                good += found(words) == number ? 1 : 0;
            }
            if (good >= most) {
                which = h;
                most = good;
            }
        }
        return what == 0 ? which : most;
    }

    public int days(int seed, int n, int w) {
        if (out(seed, 0, 999999) || out(n, 0, 60) || out(w, 0, 100)) {
            return bad();
        }
        State before = state();
        long x = seed;
        int opened = 0;
        for (int d = 0; d < n; d++) {
            int who = 0;
            for (int h = 0; h < holders.size(); h++) {
                x = next(x);
                who += x / 65536 % 100 < w ? 1 << h : 0;
            }
            opened += pass(who) == 1 ? 1 : 0;
        }
        take(before);
        return opened;
    }

    public long part(int what) {
        if (out(what, 0, 1)) {
            return bad();
        }
        return (what == 0 ? above : below).longValueExact();
    }

    public int image(int i) {
        if (out(i, 0, 1)) {
            return bad();
        }
        images[i] = state();
        return 1;
    }

    public int from(int i) {
        if (out(i, 0, 1)) {
            return bad();
        }
        if (images[i] == null) {
            return no();
        }
        take(images[i]);
        return 1;
    }

    public int status(int what) {
        return out(what, 0, 2) ? bad(-1) : status[what];
    }

    private int[] counts() {
        return new int[] {holders.size(), enough, moment.day, moment.tries, moment.shut ? 1 : 0, told.size(),
            past.size(), text.length()};
    }

    public int count(int what) {
        return out(what, 0, 7) ? bad() : counts()[what];
    }

    public long digest() {
        List<Long> values = new ArrayList<>();
        for (int c : counts()) {
            values.add((long) c);
        }
        values.add((long) number);
        moment.way.forEach(c -> values.add((long) c));
        for (Holder h : holders) {
            values.add((long) h.kind);
            values.add((long) h.n);
        }
        for (int p = 0; p < 6; p++) {
            values.add((long) told.getOrDefault(p, -1));
        }
        values.add(above.longValueExact());
        values.add(below.longValueExact());
        long h = 1063;
        for (long v : values) {
            h = 31 * h + v;
        }
        return h;
    }

    int holderCount() {
        return holders.size();
    }

    /** What point p would be told truly, for a test that wants some who agree. */
    int trueAt(int p) {
        return share(p);
    }
}
