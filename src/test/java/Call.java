/** A call of the face, how often a drawn run makes it, and the least and most of each of its numbers. */
enum Call {
    SAFE("safe", 1, 0, 96, 1, 4),
    HOLDER("holder", 8, 0, 5, 0, 96),
    WAY("way", 6, 1, 3, 0, 96),
    TYPE("type", 3, 0, 127),
    CLEAR("clear", 2),
    READ("read", 2),
    DAY("day", 25, 0, Call.BITS),
    CHANGE("change", 8, 0, 999999),
    UNDO("undo", 12),
    OF("of", 5, 0, 5, 0, 2),
    TELLS("tells", 10, 0, 5, 0, 999, 1, 6),
    FINDS("finds", 4, 0, Call.BITS),
    KNOWS("knows", 4, 0, Call.BITS),
    COMES("comes", 10, 0, Call.BITS, 0, 999),
    TELL("tell", 20, 0, 5, -1, 96),
    FORGET("forget", 2),
    AGREE("agree", 5),
    LIARS("liars", 8),
    GUESS("guess", 8),
    MIXED("mixed", 8, 0, 1, 0, Call.BITS, 0, Call.BITS),
    ODDS("odds", 5, 0, 10),
    BEST("best", 5, 0, 10, 0, 10),
    MUST("must", 8, 0, 999),
    CARS("cars", 5, 0, Call.BITS, 0, 1),
    ENVELOPE("envelope", 6, 0, 990, 0, 1),
    DAYS("days", 6, 0, 999999, 0, 60, 0, 100),
    PART("part", 4, 0, 1),
    IMAGE("image", 5, 0, 1),
    FROM("from", 5, 0, 1),
    STATUS("status", 4, 0, 2),
    COUNT("count", 6, 0, 7),
    DIGEST("digest", 3);

    /** Six holders as bits. */
    static final int BITS = 63;

    final String face;
    final int weight;
    private final int[] limits;

    Call(String face, int weight, int... limits) {
        this.face = face;
        this.weight = weight;
        this.limits = limits;
    }

    int numbers() {
        return limits.length / 2;
    }

    int least(int k) {
        return limits[2 * k];
    }

    int most(int k) {
        return limits[2 * k + 1];
    }
}
